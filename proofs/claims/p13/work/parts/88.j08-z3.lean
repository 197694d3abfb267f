
set_option maxRecDepth 20000
/-! THE REFERENCE: copies -/

/-- the copy of a tray's cards, key by key -/
def cpR (h : Hp) (c t : Int32) : Nat → Hp
  | 0 => h
  | n + 1 => fl_setI (fl_setI (cpR h c t n) 252 (((Int32.ofInt 32) * c) + (Int32.ofNat n)).toNatClampNeg (h.1 255 (((Int32.ofInt 32) * t) + (Int32.ofNat n)).toNatClampNeg)) 253 (((Int32.ofInt 32) * c) + (Int32.ofNat n)).toNatClampNeg (h.1 256 (((Int32.ofInt 32) * t) + (Int32.ofNat n)).toNatClampNeg)
theorem cpR_2 {h : Hp} {c t : Int32} : ∀ n, (cpR h c t n).2 = h.2
  | 0 => rfl
  | n + 1 => cpR_2 n
theorem cpR_out {h : Hp} {c t : Int32} {r j : Nat} (hr : r ≠ 252 ∧ r ≠ 253) : ∀ n, (cpR h c t n).1 r j = h.1 r j
  | 0 => rfl
  | n + 1 => by
    unfold cpR
    rw [setI_no (by omega), setI_no (by omega)]
    exact cpR_out hr n
theorem cp_ix {c : Int32} {n : Nat} (c0 : 0 ≤ c.toInt) (c5 : c.toInt ≤ 5) (hn : n ≤ 100) : (((Int32.ofInt 32) * c) + (Int32.ofNat n)).toNatClampNeg = 32 * c.toNatClampNeg + n := by
  have := xNn (N := 32) (c := c) (n := Int32.ofNat n) (by omega) c0 (by omega) (by rw [i32n (by omega)]; omega) (by rw [i32n (by omega)]; omega)
  rw [o32c (by omega)] at this
  exact this
theorem cpR_at {h : Hp} {c t : Int32} {j : Nat} (c0 : 0 ≤ c.toInt) (c5 : c.toInt ≤ 5) (t0 : 0 ≤ t.toInt) (t5 : t.toInt ≤ 5) : ∀ n, n ≤ 32 → (cpR h c t n).1 252 j = (if 32 * c.toNatClampNeg ≤ j ∧ j < 32 * c.toNatClampNeg + n then h.1 255 (32 * t.toNatClampNeg + (j - 32 * c.toNatClampNeg)) else h.1 252 j) ∧ (cpR h c t n).1 253 j = (if 32 * c.toNatClampNeg ≤ j ∧ j < 32 * c.toNatClampNeg + n then h.1 256 (32 * t.toNatClampNeg + (j - 32 * c.toNatClampNeg)) else h.1 253 j)
  | 0, _ => by
    rw [if_neg (by omega), if_neg (by omega)]
    exact ⟨rfl, rfl⟩
  | n + 1, hn => by
    obtain ⟨i1, i2⟩ := cpR_at (h := h) (j := j) c0 c5 t0 t5 n (by omega)
    unfold cpR
    rw [cp_ix c0 c5 (by omega), cp_ix t0 t5 (by omega)]
    by_cases hj : j = 32 * c.toNatClampNeg + n
    · subst hj
      rw [if_pos (by omega), if_pos (by omega), setI_eq, setI_no (by omega), setI_eq, show 32 * t.toNatClampNeg + (32 * c.toNatClampNeg + n - 32 * c.toNatClampNeg) = 32 * t.toNatClampNeg + n by omega]
      exact ⟨rfl, rfl⟩
    · rw [setI_no (by omega), setI_no (by omega), setI_no (by omega), setI_no (by omega), i1, i2]
      by_cases h2 : 32 * c.toNatClampNeg ≤ j ∧ j < 32 * c.toNatClampNeg + n
      · rw [if_pos h2, if_pos h2, if_pos (by omega), if_pos (by omega)]
        exact ⟨rfl, rfl⟩
      · rw [if_neg h2, if_neg h2, if_neg (by omega), if_neg (by omega)]
        exact ⟨rfl, rfl⟩
/-- the weighted sum -/
def msum (h : Hp) (t : Int32) : Nat → Int32
  | 0 => Int32.ofInt 0
  | n + 1 => if (h.1 255 (((Int32.ofInt 32) * t) + (Int32.ofNat n)).toNatClampNeg).toInt = 0 then msum h t n + Int32.ofInt 0 else msum h t n + (Int32.ofNat n + Int32.ofInt 1) * h.1 256 (((Int32.ofInt 32) * t) + (Int32.ofNat n)).toNatClampNeg

theorem z_copies_l {d : Nat} {h : Hp} {c x t op a : Int32} (S : SH h.2) {r : Option Value × Hp × Nat} : ∀ (f : Nat) {k : Nat}, k ≤ 32 → 32 - k < f → Ev d 161 (252, [some (.ref 223), some (.int c), some (.int x), some (.int t), some (.int op), some (.int a), some (.int (msum h t k)), some (.int (Int32.ofNat k))], [], (cpR h c t k), fl_tot) r → ∃ kk, Ev d 161 (354, [some (.ref 223), some (.int c), some (.int x), some (.int t), some (.int op), some (.int a), some (.int (msum h t 32)), some (.int kk)], [], (cpR h c t 32), fl_tot) r
  | 0, k, hk, hf, e => by omega
  | f + 1, k, hk, hf, e => by
    have ek := i32n (n := k) (by omega)
    have S9 : SH (cpR h c t k).2 := by rw [cpR_2]; exact S
    have e : Ev d 161 (256, [some (.ref 223), some (.int c), some (.int x), some (.int t), some (.int op), some (.int a), some (.int (msum h t k)), some (.int (Int32.ofNat k))], [.int (Int32.ofInt 32), .int (Int32.ofNat k)], (cpR h c t k), fl_tot) r := e.bk [((2, [7, 0], 254), 0), ((1, [32], 256), 0)] [] (by decide +kernel) trivial rfl
    rcases b7_3 (T := 354) e (show fl_code 161 256 = some (7, [3, 354], 259) by decide +kernel) rfl rfl (kc (by decide) (by decide)) with ⟨c1, e⟩ | ⟨c1, e⟩
    · have k1 : k = 32 := by omega
      rw [k1] at e
      exact ⟨_, e⟩
    · have e : Ev d 161 (282, [some (.ref 223), some (.int c), some (.int x), some (.int t), some (.int op), some (.int a), some (.int (msum h t k)), some (.int (Int32.ofNat k))], [.int ((cpR h c t k).1 255 (((Int32.ofInt 32) * t) + (Int32.ofNat k)).toNatClampNeg), .int (((Int32.ofInt 32) * c) + (Int32.ofNat k)), .ref 252], (cpR h c t k), fl_tot) r := e.bk [((2, [0, 2], 260), 0), ((9, [10, 34], 263), 2), ((1, [32], 265), 0), ((2, [1, 0], 266), 0), ((5, [2], 267), 0), ((2, [7, 0], 269), 0), ((5, [0], 270), 0), ((2, [0, 2], 271), 0), ((9, [10, 37], 274), 2), ((1, [32], 276), 0), ((2, [3, 0], 277), 0), ((5, [2], 278), 0), ((2, [7, 0], 280), 0), ((5, [0], 281), 0), ((13, [], 282), 4)] [252, 255] (by decide +kernel) (show (cpR h c t k).2 223 34 = some 252 ∧ (cpR h c t k).2 223 37 = some 255 ∧ True from ⟨(S9.m 34 252 (by decide)), (S9.m 37 255 (by decide)), trivial⟩) rfl
      have r2_0 : (cpR h c t k).1 255 (((Int32.ofInt 32) * t) + (Int32.ofNat k)).toNatClampNeg = h.1 255 (((Int32.ofInt 32) * t) + (Int32.ofNat k)).toNatClampNeg := cpR_out (by decide) k
      rw [r2_0] at e
      have e : Ev d 161 (283, [some (.ref 223), some (.int c), some (.int x), some (.int t), some (.int op), some (.int a), some (.int (msum h t k)), some (.int (Int32.ofNat k))], [], (fl_setI (cpR h c t k) 252 (((Int32.ofInt 32) * c) + (Int32.ofNat k)).toNatClampNeg (h.1 255 (((Int32.ofInt 32) * t) + (Int32.ofNat k)).toNatClampNeg)), fl_tot) r := e.bk [((14, [], 283), 6)] [] (by decide +kernel) trivial rfl
      obtain ⟨g3h, q3⟩ : ∃ z, z = fl_setI (cpR h c t k) 252 (((Int32.ofInt 32) * c) + (Int32.ofNat k)).toNatClampNeg (h.1 255 (((Int32.ofInt 32) * t) + (Int32.ofNat k)).toNatClampNeg) := ⟨_, rfl⟩
      rw [← q3] at e
      have S3 : SH g3h.2 := by rw [q3]; exact S9
      have e : Ev d 161 (306, [some (.ref 223), some (.int c), some (.int x), some (.int t), some (.int op), some (.int a), some (.int (msum h t k)), some (.int (Int32.ofNat k))], [.int (g3h.1 256 (((Int32.ofInt 32) * t) + (Int32.ofNat k)).toNatClampNeg), .int (((Int32.ofInt 32) * c) + (Int32.ofNat k)), .ref 253], g3h, fl_tot) r := e.bk [((2, [0, 2], 284), 0), ((9, [10, 35], 287), 2), ((1, [32], 289), 0), ((2, [1, 0], 290), 0), ((5, [2], 291), 0), ((2, [7, 0], 293), 0), ((5, [0], 294), 0), ((2, [0, 2], 295), 0), ((9, [10, 38], 298), 2), ((1, [32], 300), 0), ((2, [3, 0], 301), 0), ((5, [2], 302), 0), ((2, [7, 0], 304), 0), ((5, [0], 305), 0), ((11, [], 306), 4)] [253, 256] (by decide +kernel) (show g3h.2 223 35 = some 253 ∧ g3h.2 223 38 = some 256 ∧ True from ⟨(S3.m 35 253 (by decide)), (S3.m 38 256 (by decide)), trivial⟩) rfl
      have r4_0 : g3h.1 256 (((Int32.ofInt 32) * t) + (Int32.ofNat k)).toNatClampNeg = (cpR h c t k).1 256 (((Int32.ofInt 32) * t) + (Int32.ofNat k)).toNatClampNeg := by rw [q3]; exact setI_no (by omega)
      have r4_1 : (cpR h c t k).1 256 (((Int32.ofInt 32) * t) + (Int32.ofNat k)).toNatClampNeg = h.1 256 (((Int32.ofInt 32) * t) + (Int32.ofNat k)).toNatClampNeg := cpR_out (by decide) k
      rw [r4_0, r4_1] at e
      have e : Ev d 161 (307, [some (.ref 223), some (.int c), some (.int x), some (.int t), some (.int op), some (.int a), some (.int (msum h t k)), some (.int (Int32.ofNat k))], [], (fl_setI g3h 253 (((Int32.ofInt 32) * c) + (Int32.ofNat k)).toNatClampNeg (h.1 256 (((Int32.ofInt 32) * t) + (Int32.ofNat k)).toNatClampNeg)), fl_tot) r := e.bk [((12, [], 307), 6)] [] (by decide +kernel) trivial rfl
      obtain ⟨g5h, q5⟩ : ∃ z, z = fl_setI g3h 253 (((Int32.ofInt 32) * c) + (Int32.ofNat k)).toNatClampNeg (h.1 256 (((Int32.ofInt 32) * t) + (Int32.ofNat k)).toNatClampNeg) := ⟨_, rfl⟩
      rw [← q5] at e
      have S5 : SH g5h.2 := by rw [q5]; exact S3
      have e : Ev d 161 (321, [some (.ref 223), some (.int c), some (.int x), some (.int t), some (.int op), some (.int a), some (.int (msum h t k)), some (.int (Int32.ofNat k))], [.int (g5h.1 255 (((Int32.ofInt 32) * t) + (Int32.ofNat k)).toNatClampNeg), .int (msum h t k)], g5h, fl_tot) r := e.bk [((2, [6, 0], 309), 0), ((2, [0, 2], 310), 0), ((9, [10, 37], 313), 2), ((1, [32], 315), 0), ((2, [3, 0], 316), 0), ((5, [2], 317), 0), ((2, [7, 0], 319), 0), ((5, [0], 320), 0), ((13, [], 321), 4)] [255] (by decide +kernel) (show g5h.2 223 37 = some 255 ∧ True from ⟨(S5.m 37 255 (by decide)), trivial⟩) rfl
      have r6_0 : g5h.1 255 (((Int32.ofInt 32) * t) + (Int32.ofNat k)).toNatClampNeg = g3h.1 255 (((Int32.ofInt 32) * t) + (Int32.ofNat k)).toNatClampNeg := by rw [q5]; exact setI_no (by omega)
      have r6_1 : g3h.1 255 (((Int32.ofInt 32) * t) + (Int32.ofNat k)).toNatClampNeg = (cpR h c t k).1 255 (((Int32.ofInt 32) * t) + (Int32.ofNat k)).toNatClampNeg := by rw [q3]; exact setI_no (by omega)
      have r6_2 : (cpR h c t k).1 255 (((Int32.ofInt 32) * t) + (Int32.ofNat k)).toNatClampNeg = h.1 255 (((Int32.ofInt 32) * t) + (Int32.ofNat k)).toNatClampNeg := cpR_out (by decide) k
      rw [r6_0, r6_1, r6_2] at e
      rcases b6_0 (T := 344) e (show fl_code 161 321 = some (6, [0, 344], 324) by decide +kernel) rfl rfl with ⟨c7, e⟩ | ⟨c7, e⟩
      · have e : Ev d 161 (252, [some (.ref 223), some (.int c), some (.int x), some (.int t), some (.int op), some (.int a), some (.int ((msum h t k) + (Int32.ofInt 0))), some (.int ((Int32.ofNat k) + (Int32.ofInt 1)))], [], g5h, fl_tot) r := e.bk [((1, [0], 345), 0), ((5, [0], 346), 0), ((3, [6, 0], 348), 0), ((4, [7, 1], 351), 0), ((8, [252], 354), 0)] [] (by decide +kernel) trivial rfl
        have et : g5h = cpR h c t (k + 1) := by rw [q5, q3]; rfl
        rw [et] at e
        have e1 : msum h t (k + 1) = msum h t k + Int32.ofInt 0 := if_pos c7
        rw [← e1, o32 (by omega)] at e
        exact z_copies_l S f (k := k + 1) (by omega) (by omega) e
      · have e : Ev d 161 (340, [some (.ref 223), some (.int c), some (.int x), some (.int t), some (.int op), some (.int a), some (.int (msum h t k)), some (.int (Int32.ofNat k))], [.int (g5h.1 256 (((Int32.ofInt 32) * t) + (Int32.ofNat k)).toNatClampNeg), .int ((Int32.ofNat k) + (Int32.ofInt 1)), .int (msum h t k)], g5h, fl_tot) r := e.bk [((2, [7, 0], 326), 0), ((1, [1], 327), 0), ((5, [0], 328), 0), ((2, [0, 2], 329), 0), ((9, [10, 38], 332), 2), ((1, [32], 334), 0), ((2, [3, 0], 335), 0), ((5, [2], 336), 0), ((2, [7, 0], 338), 0), ((5, [0], 339), 0), ((11, [], 340), 4)] [256] (by decide +kernel) (show g5h.2 223 38 = some 256 ∧ True from ⟨(S5.m 38 256 (by decide)), trivial⟩) rfl
        have r8_0 : g5h.1 256 (((Int32.ofInt 32) * t) + (Int32.ofNat k)).toNatClampNeg = g3h.1 256 (((Int32.ofInt 32) * t) + (Int32.ofNat k)).toNatClampNeg := by rw [q5]; exact setI_no (by omega)
        have r8_1 : g3h.1 256 (((Int32.ofInt 32) * t) + (Int32.ofNat k)).toNatClampNeg = (cpR h c t k).1 256 (((Int32.ofInt 32) * t) + (Int32.ofNat k)).toNatClampNeg := by rw [q3]; exact setI_no (by omega)
        have r8_2 : (cpR h c t k).1 256 (((Int32.ofInt 32) * t) + (Int32.ofNat k)).toNatClampNeg = h.1 256 (((Int32.ofInt 32) * t) + (Int32.ofNat k)).toNatClampNeg := cpR_out (by decide) k
        rw [r8_0, r8_1, r8_2] at e
        have e : Ev d 161 (252, [some (.ref 223), some (.int c), some (.int x), some (.int t), some (.int op), some (.int a), some (.int ((msum h t k) + (((Int32.ofNat k) + (Int32.ofInt 1)) * (h.1 256 (((Int32.ofInt 32) * t) + (Int32.ofNat k)).toNatClampNeg)))), some (.int ((Int32.ofNat k) + (Int32.ofInt 1)))], [], g5h, fl_tot) r := e.bk [((5, [2], 341), 0), ((8, [345], 344), 0), ((5, [0], 346), 0), ((3, [6, 0], 348), 0), ((4, [7, 1], 351), 0), ((8, [252], 354), 0)] [] (by decide +kernel) trivial rfl
        have et : g5h = cpR h c t (k + 1) := by rw [q5, q3]; rfl
        rw [et] at e
        have e1 : msum h t (k + 1) = msum h t k + (Int32.ofNat k + Int32.ofInt 1) * h.1 256 (((Int32.ofInt 32) * t) + (Int32.ofNat k)).toNatClampNeg := if_neg c7
        rw [← e1, o32 (by omega)] at e
        exact z_copies_l S f (k := k + 1) (by omega) (by omega) e

theorem z_copies_e {d : Nat} {h : Hp} {c : Int32} {x : Int32} {t : Int32} {op : Int32} {a : Int32} {sum : Int32} {kk : Int32} (S : SH h.2)  {r : Option Value × Hp × Nat} (e : Ev d 161 (354, [some (.ref 223), some (.int c), some (.int x), some (.int t), some (.int op), some (.int a), some (.int sum), some (.int kk)], [], h, fl_tot) r) : (op.toInt = 3 ∧ op.toInt = 3 ∧ r = (none, (fl_setI (fl_setI h 247 c.toNatClampNeg (Int32.ofInt 1)) 248 c.toNatClampNeg sum), fl_tot)) ∨ (op.toInt ≠ 3 ∧ (h.1 255 (((Int32.ofInt 32) * t) + a).toNatClampNeg).toInt = 0 ∧ op.toInt ≠ 3 ∧ r = (none, (fl_setI (fl_setI h 247 c.toNatClampNeg (Int32.ofInt 0)) 248 c.toNatClampNeg (Int32.ofInt 0)), fl_tot)) ∨ (op.toInt ≠ 3 ∧ (h.1 255 (((Int32.ofInt 32) * t) + a).toNatClampNeg).toInt ≠ 0 ∧ op.toInt ≠ 3 ∧ r = (none, (fl_setI (fl_setI h 247 c.toNatClampNeg (Int32.ofInt 1)) 248 c.toNatClampNeg (h.1 256 (((Int32.ofInt 32) * t) + a).toNatClampNeg)), fl_tot)) := by
  have e : Ev d 161 (362, [some (.ref 223), some (.int c), some (.int x), some (.int t), some (.int op), some (.int a), some (.int sum), some (.int kk)], [.int (Int32.ofInt 3), .int op, .int c, .ref 247], h, fl_tot) r := e.bk [((2, [0, 2], 355), 0), ((9, [10, 29], 358), 2), ((2, [1, 0], 359), 0), ((2, [4, 0], 361), 0), ((1, [3], 362), 0)] [247] (by decide +kernel) (show h.2 223 29 = some 247 ∧ True from ⟨(S.m 29 247 (by decide)), trivial⟩) rfl
  rcases b7_0 (T := 380) e (show fl_code 161 362 = some (7, [0, 380], 365) by decide +kernel) rfl rfl (kc (by decide) (by decide)) with ⟨c1, e⟩ | ⟨c1, e⟩
  · have e : Ev d 161 (386, [some (.ref 223), some (.int c), some (.int x), some (.int t), some (.int op), some (.int a), some (.int sum), some (.int kk)], [], (fl_setI h 247 c.toNatClampNeg (Int32.ofInt 1)), fl_tot) r := e.bk [((1, [1], 381), 0), ((8, [385], 384), 0), ((14, [], 386), 6)] [] (by decide +kernel) trivial rfl
    obtain ⟨g2h, q2⟩ : ∃ z, z = fl_setI h 247 c.toNatClampNeg (Int32.ofInt 1) := ⟨_, rfl⟩
    rw [← q2] at e
    have S2 : SH g2h.2 := by rw [q2]; exact S
    have e : Ev d 161 (394, [some (.ref 223), some (.int c), some (.int x), some (.int t), some (.int op), some (.int a), some (.int sum), some (.int kk)], [.int (Int32.ofInt 3), .int op, .int c, .ref 248], g2h, fl_tot) r := e.bk [((2, [0, 2], 387), 0), ((9, [10, 30], 390), 2), ((2, [1, 0], 391), 0), ((2, [4, 0], 393), 0), ((1, [3], 394), 0)] [248] (by decide +kernel) (show g2h.2 223 30 = some 248 ∧ True from ⟨(S2.m 30 248 (by decide)), trivial⟩) rfl
    rcases b7_1 (T := 402) e (show fl_code 161 394 = some (7, [1, 402], 397) by decide +kernel) rfl rfl (kc (by decide) (by decide)) with ⟨c3, e⟩ | ⟨c3, e⟩
    · exfalso; omega
    · have e : Ev d 161 (428, [some (.ref 223), some (.int c), some (.int x), some (.int t), some (.int op), some (.int a), some (.int sum), some (.int kk)], [], (fl_setI g2h 248 c.toNatClampNeg sum), fl_tot) r := e.bk [((2, [6, 0], 399), 0), ((8, [427], 402), 0), ((12, [], 428), 6)] [] (by decide +kernel) trivial rfl
      obtain ⟨g4h, q4⟩ : ∃ z, z = fl_setI g2h 248 c.toNatClampNeg sum := ⟨_, rfl⟩
      rw [← q4] at e
      have S4 : SH g4h.2 := by rw [q4]; exact S2
      have w := b21 e (show fl_code 161 428 = some (21, [], 429) by decide +kernel)
      exact (Or.inl ⟨c1, c3, (by rw [w, q4, q2])⟩)
  · have e : Ev d 161 (377, [some (.ref 223), some (.int c), some (.int x), some (.int t), some (.int op), some (.int a), some (.int sum), some (.int kk)], [.int (h.1 255 (((Int32.ofInt 32) * t) + a).toNatClampNeg), .int c, .ref 247], h, fl_tot) r := e.bk [((2, [0, 2], 366), 0), ((9, [10, 37], 369), 2), ((1, [32], 371), 0), ((2, [3, 0], 372), 0), ((5, [2], 373), 0), ((2, [5, 0], 375), 0), ((5, [0], 376), 0), ((13, [], 377), 4)] [255] (by decide +kernel) (show h.2 223 37 = some 255 ∧ True from ⟨(S.m 37 255 (by decide)), trivial⟩) rfl
    rcases b6_0 (T := 384) e (show fl_code 161 377 = some (6, [0, 384], 380) by decide +kernel) rfl rfl with ⟨c5, e⟩ | ⟨c5, e⟩
    · have e : Ev d 161 (386, [some (.ref 223), some (.int c), some (.int x), some (.int t), some (.int op), some (.int a), some (.int sum), some (.int kk)], [], (fl_setI h 247 c.toNatClampNeg (Int32.ofInt 0)), fl_tot) r := e.bk [((1, [0], 385), 0), ((14, [], 386), 6)] [] (by decide +kernel) trivial rfl
      obtain ⟨g6h, q6⟩ : ∃ z, z = fl_setI h 247 c.toNatClampNeg (Int32.ofInt 0) := ⟨_, rfl⟩
      rw [← q6] at e
      have S6 : SH g6h.2 := by rw [q6]; exact S
      have e : Ev d 161 (394, [some (.ref 223), some (.int c), some (.int x), some (.int t), some (.int op), some (.int a), some (.int sum), some (.int kk)], [.int (Int32.ofInt 3), .int op, .int c, .ref 248], g6h, fl_tot) r := e.bk [((2, [0, 2], 387), 0), ((9, [10, 30], 390), 2), ((2, [1, 0], 391), 0), ((2, [4, 0], 393), 0), ((1, [3], 394), 0)] [248] (by decide +kernel) (show g6h.2 223 30 = some 248 ∧ True from ⟨(S6.m 30 248 (by decide)), trivial⟩) rfl
      rcases b7_1 (T := 402) e (show fl_code 161 394 = some (7, [1, 402], 397) by decide +kernel) rfl rfl (kc (by decide) (by decide)) with ⟨c7, e⟩ | ⟨c7, e⟩
      · have e : Ev d 161 (408, [some (.ref 223), some (.int c), some (.int x), some (.int t), some (.int op), some (.int a), some (.int sum), some (.int kk)], [.int (g6h.1 247 c.toNatClampNeg), .int c, .ref 248], g6h, fl_tot) r := e.bk [((2, [0, 2], 403), 0), ((9, [10, 29], 406), 2), ((2, [1, 0], 407), 0), ((13, [], 408), 4)] [247] (by decide +kernel) (show g6h.2 223 29 = some 247 ∧ True from ⟨(S6.m 29 247 (by decide)), trivial⟩) rfl
        have r8_0 : g6h.1 247 c.toNatClampNeg = (Int32.ofInt 0) := by rw [q6]; exact setI_eq
        rw [r8_0] at e
        rcases b6_0 (T := 426) e (show fl_code 161 408 = some (6, [0, 426], 411) by decide +kernel) rfl (kc (by decide) (by decide)) with ⟨c9, e⟩ | ⟨c9, e⟩
        · have e : Ev d 161 (428, [some (.ref 223), some (.int c), some (.int x), some (.int t), some (.int op), some (.int a), some (.int sum), some (.int kk)], [], (fl_setI g6h 248 c.toNatClampNeg (Int32.ofInt 0)), fl_tot) r := e.bk [((1, [0], 427), 0), ((12, [], 428), 6)] [] (by decide +kernel) trivial rfl
          obtain ⟨g10h, q10⟩ : ∃ z, z = fl_setI g6h 248 c.toNatClampNeg (Int32.ofInt 0) := ⟨_, rfl⟩
          rw [← q10] at e
          have S10 : SH g10h.2 := by rw [q10]; exact S6
          have w := b21 e (show fl_code 161 428 = some (21, [], 429) by decide +kernel)
          exact (Or.inr (Or.inl ⟨c1, c5, c7, (by rw [w, q10, q6])⟩))
        · exfalso; omega
      · exfalso; omega
    · have e : Ev d 161 (386, [some (.ref 223), some (.int c), some (.int x), some (.int t), some (.int op), some (.int a), some (.int sum), some (.int kk)], [], (fl_setI h 247 c.toNatClampNeg (Int32.ofInt 1)), fl_tot) r := e.bk [((1, [1], 381), 0), ((8, [385], 384), 0), ((14, [], 386), 6)] [] (by decide +kernel) trivial rfl
      obtain ⟨g11h, q11⟩ : ∃ z, z = fl_setI h 247 c.toNatClampNeg (Int32.ofInt 1) := ⟨_, rfl⟩
      rw [← q11] at e
      have S11 : SH g11h.2 := by rw [q11]; exact S
      have e : Ev d 161 (394, [some (.ref 223), some (.int c), some (.int x), some (.int t), some (.int op), some (.int a), some (.int sum), some (.int kk)], [.int (Int32.ofInt 3), .int op, .int c, .ref 248], g11h, fl_tot) r := e.bk [((2, [0, 2], 387), 0), ((9, [10, 30], 390), 2), ((2, [1, 0], 391), 0), ((2, [4, 0], 393), 0), ((1, [3], 394), 0)] [248] (by decide +kernel) (show g11h.2 223 30 = some 248 ∧ True from ⟨(S11.m 30 248 (by decide)), trivial⟩) rfl
      rcases b7_1 (T := 402) e (show fl_code 161 394 = some (7, [1, 402], 397) by decide +kernel) rfl rfl (kc (by decide) (by decide)) with ⟨c12, e⟩ | ⟨c12, e⟩
      · have e : Ev d 161 (408, [some (.ref 223), some (.int c), some (.int x), some (.int t), some (.int op), some (.int a), some (.int sum), some (.int kk)], [.int (g11h.1 247 c.toNatClampNeg), .int c, .ref 248], g11h, fl_tot) r := e.bk [((2, [0, 2], 403), 0), ((9, [10, 29], 406), 2), ((2, [1, 0], 407), 0), ((13, [], 408), 4)] [247] (by decide +kernel) (show g11h.2 223 29 = some 247 ∧ True from ⟨(S11.m 29 247 (by decide)), trivial⟩) rfl
        have r13_0 : g11h.1 247 c.toNatClampNeg = (Int32.ofInt 1) := by rw [q11]; exact setI_eq
        rw [r13_0] at e
        rcases b6_0 (T := 426) e (show fl_code 161 408 = some (6, [0, 426], 411) by decide +kernel) rfl (kc (by decide) (by decide)) with ⟨c14, e⟩ | ⟨c14, e⟩
        · exfalso; omega
        · have e : Ev d 161 (423, [some (.ref 223), some (.int c), some (.int x), some (.int t), some (.int op), some (.int a), some (.int sum), some (.int kk)], [.int (g11h.1 256 (((Int32.ofInt 32) * t) + a).toNatClampNeg), .int c, .ref 248], g11h, fl_tot) r := e.bk [((2, [0, 2], 412), 0), ((9, [10, 38], 415), 2), ((1, [32], 417), 0), ((2, [3, 0], 418), 0), ((5, [2], 419), 0), ((2, [5, 0], 421), 0), ((5, [0], 422), 0), ((11, [], 423), 4)] [256] (by decide +kernel) (show g11h.2 223 38 = some 256 ∧ True from ⟨(S11.m 38 256 (by decide)), trivial⟩) rfl
          have r15_0 : g11h.1 256 (((Int32.ofInt 32) * t) + a).toNatClampNeg = h.1 256 (((Int32.ofInt 32) * t) + a).toNatClampNeg := by rw [q11]; exact setI_no (by omega)
          rw [r15_0] at e
          have e : Ev d 161 (428, [some (.ref 223), some (.int c), some (.int x), some (.int t), some (.int op), some (.int a), some (.int sum), some (.int kk)], [], (fl_setI g11h 248 c.toNatClampNeg (h.1 256 (((Int32.ofInt 32) * t) + a).toNatClampNeg)), fl_tot) r := e.bk [((8, [427], 426), 0), ((12, [], 428), 6)] [] (by decide +kernel) trivial rfl
          obtain ⟨g16h, q16⟩ : ∃ z, z = fl_setI g11h 248 c.toNatClampNeg (h.1 256 (((Int32.ofInt 32) * t) + a).toNatClampNeg) := ⟨_, rfl⟩
          rw [← q16] at e
          have S16 : SH g16h.2 := by rw [q16]; exact S11
          have w := b21 e (show fl_code 161 428 = some (21, [], 429) by decide +kernel)
          exact (Or.inr (Or.inr ⟨c1, c5, c12, (by rw [w, q16, q11])⟩))
      · exfalso; omega

theorem z_read_copies0 {d : Nat} {h : Hp} {c : Int32} {x : Int32} {t : Int32} {op : Int32} {a : Int32} (S : SH h.2) (ht : h.1 228 x.toNatClampNeg = t) (hop : h.1 229 x.toNatClampNeg = op) (ha : h.1 230 x.toNatClampNeg = a) (hk : (h.1 224 t.toNatClampNeg).toInt = 4)  {r : Option Value × Hp × Nat} (e : Ev d 161 (0, [some (.ref 223), some (.int c), some (.int x), none, none, none, none, none], [], h, fl_tot) r) : ((h.1 224 t.toNatClampNeg).toInt ≠ 0 ∧ (h.1 224 t.toNatClampNeg).toInt ≠ 1 ∧ (h.1 224 t.toNatClampNeg).toInt ≠ 2 ∧ (h.1 224 t.toNatClampNeg).toInt ≠ 3 ∧ Ev d 161 (252, [some (.ref 223), some (.int c), some (.int x), some (.int t), some (.int op), some (.int a), some (.int (Int32.ofInt 0)), some (.int (Int32.ofInt 0))], [], h, fl_tot) r) := by
  have e : Ev d 161 (6, [some (.ref 223), some (.int c), some (.int x), none, none, none, none, none], [.int (h.1 228 x.toNatClampNeg)], h, fl_tot) r := e.bk [((2, [0, 2], 1), 0), ((9, [10, 6], 4), 2), ((2, [2, 0], 5), 0), ((11, [], 6), 4)] [228] (by decide +kernel) (show h.2 223 6 = some 228 ∧ True from ⟨(S.m 6 228 (by decide)), trivial⟩) rfl
  have r1_0 : h.1 228 x.toNatClampNeg = t := ht
  rw [r1_0] at e
  have e : Ev d 161 (13, [some (.ref 223), some (.int c), some (.int x), some (.int t), none, none, none, none], [.int (h.1 229 x.toNatClampNeg)], h, fl_tot) r := e.bk [((3, [3, 0], 7), 0), ((2, [0, 2], 8), 0), ((9, [10, 7], 11), 2), ((2, [2, 0], 12), 0), ((11, [], 13), 4)] [229] (by decide +kernel) (show h.2 223 7 = some 229 ∧ True from ⟨(S.m 7 229 (by decide)), trivial⟩) rfl
  have r2_0 : h.1 229 x.toNatClampNeg = op := hop
  rw [r2_0] at e
  have e : Ev d 161 (21, [some (.ref 223), some (.int c), some (.int x), some (.int t), some (.int op), none, none, none], [.int (h.1 230 x.toNatClampNeg)], h, fl_tot) r := e.bk [((3, [4, 0], 15), 0), ((2, [0, 2], 16), 0), ((9, [10, 8], 19), 2), ((2, [2, 0], 20), 0), ((11, [], 21), 4)] [230] (by decide +kernel) (show h.2 223 8 = some 230 ∧ True from ⟨(S.m 8 230 (by decide)), trivial⟩) rfl
  have r3_0 : h.1 230 x.toNatClampNeg = a := ha
  rw [r3_0] at e
  have e : Ev d 161 (29, [some (.ref 223), some (.int c), some (.int x), some (.int t), some (.int op), some (.int a), none, none], [.int (h.1 224 t.toNatClampNeg)], h, fl_tot) r := e.bk [((3, [5, 0], 23), 0), ((2, [0, 2], 24), 0), ((9, [10, 1], 27), 2), ((2, [3, 0], 28), 0), ((11, [], 29), 4)] [224] (by decide +kernel) (show h.2 223 1 = some 224 ∧ True from ⟨(S.m 1 224 (by decide)), trivial⟩) rfl
  have e : swP d 161 fl_tot [some (.ref 223), some (.int c), some (.int x), some (.int t), some (.int op), some (.int a), none, none] [] h r ((h.1 224 t.toNatClampNeg).toInt) 246 0 [60, 119, 246, 176] := b40 e (show fl_code 161 29 = some (40, [0, 246, 60, 119, 246, 176], 60) by decide +kernel) rfl
  rcases e with ⟨c4_0, e⟩ | ⟨c4_0, e⟩
  · exfalso; omega
  · skip
    rcases e with ⟨c4_1, e⟩ | ⟨c4_1, e⟩
    · exfalso; omega
    · skip
      rcases e with ⟨c4_2, e⟩ | ⟨c4_2, e⟩
      · exfalso; omega
      · skip
        rcases e with ⟨c4_3, e⟩ | ⟨c4_3, e⟩
        · exfalso; omega
        · skip
          have e : Ev d 161 (246, [some (.ref 223), some (.int c), some (.int x), some (.int t), some (.int op), some (.int a), none, none], [], h, fl_tot) r := e
          have e : Ev d 161 (252, [some (.ref 223), some (.int c), some (.int x), some (.int t), some (.int op), some (.int a), some (.int (Int32.ofInt 0)), some (.int (Int32.ofInt 0))], [], h, fl_tot) r := e.bk [((1, [0], 247), 0), ((3, [6, 0], 249), 0), ((1, [0], 250), 0), ((3, [7, 0], 252), 0)] [] (by decide +kernel) trivial rfl
          exact ⟨c4_0, c4_1, c4_2, c4_3, e⟩

/-- the tray gets the copy, but for what is put or out -/
def cwR (h : Hp) (c x t op a : Int32) : Nat → Hp
  | 0 => h
  | n + 1 => fl_setI (fl_setI (cwR h c x t op a n) 255 (((Int32.ofInt 32) * t) + (Int32.ofNat n)).toNatClampNeg (if n = a.toNatClampNeg then (if op.toInt = 0 then Int32.ofInt 1 else Int32.ofInt 0) else h.1 252 (((Int32.ofInt 32) * c) + (Int32.ofNat n)).toNatClampNeg)) 256 (((Int32.ofInt 32) * t) + (Int32.ofNat n)).toNatClampNeg (if n = a.toNatClampNeg then h.1 231 x.toNatClampNeg else h.1 253 (((Int32.ofInt 32) * c) + (Int32.ofNat n)).toNatClampNeg)
theorem cwR_2 {h : Hp} {c x t op a : Int32} : ∀ n, (cwR h c x t op a n).2 = h.2
  | 0 => rfl
  | n + 1 => cwR_2 n
theorem cwR_out {h : Hp} {c x t op a : Int32} {r j : Nat} (hr : r ≠ 255 ∧ r ≠ 256) : ∀ n, (cwR h c x t op a n).1 r j = h.1 r j
  | 0 => rfl
  | n + 1 => by
    unfold cwR
    rw [setI_no (by omega), setI_no (by omega)]
    exact cwR_out hr n
theorem cwR_lo {h : Hp} {c x t op a : Int32} {j : Nat} (t0 : 0 ≤ t.toInt) (t5 : t.toInt ≤ 5) (hj : j < 32 * t.toNatClampNeg ∨ 32 * t.toNatClampNeg + 32 ≤ j) : ∀ n, n ≤ 32 → (cwR h c x t op a n).1 255 j = h.1 255 j ∧ (cwR h c x t op a n).1 256 j = h.1 256 j
  | 0, _ => ⟨rfl, rfl⟩
  | n + 1, hn => by
    have ih := cwR_lo (h := h) (c := c) (x := x) (op := op) (a := a) t0 t5 hj n (by omega)
    have ix := cp_ix (n := n) t0 t5 (by omega)
    unfold cwR
    rw [setI_no (by omega), setI_no (by omega), setI_no (by omega), setI_no (by omega)]
    exact ih
theorem cwR_at {h : Hp} {c x t op a : Int32} {n : Nat} (c0 : 0 ≤ c.toInt) (c5 : c.toInt ≤ 5) (t0 : 0 ≤ t.toInt) (t5 : t.toInt ≤ 5) : ∀ N, N ≤ 32 → n < N → (cwR h c x t op a N).1 255 (32 * t.toNatClampNeg + n) = (if n = a.toNatClampNeg then (if op.toInt = 0 then Int32.ofInt 1 else Int32.ofInt 0) else h.1 252 (32 * c.toNatClampNeg + n)) ∧ (cwR h c x t op a N).1 256 (32 * t.toNatClampNeg + n) = (if n = a.toNatClampNeg then h.1 231 x.toNatClampNeg else h.1 253 (32 * c.toNatClampNeg + n))
  | 0, _, hn => by omega
  | N + 1, hN, hn => by
    have ix := cp_ix (n := N) t0 t5 (by omega)
    have cx := cp_ix (n := N) c0 c5 (by omega)
    unfold cwR
    rw [ix, cx]
    by_cases e : n = N
    · subst e
      rw [setI_no (by omega), setI_eq, setI_eq]
      exact ⟨rfl, rfl⟩
    · rw [setI_no (by omega), setI_no (by omega), setI_no (by omega), setI_no (by omega)]
      exact cwR_at c0 c5 t0 t5 N (by omega) (by omega)

theorem z_cwr_l {d : Nat} {h : Hp} {c x t op a : Int32} (S : SH h.2) (a0 : 0 ≤ a.toInt) {r : Option Value × Hp × Nat} : ∀ (f : Nat) {k : Nat}, k ≤ 32 → 32 - k < f → Ev d 169 (319, [some (.ref 223), some (.int c), some (.int x), some (.int t), some (.int op), some (.int a), some (.int (Int32.ofNat k))], [], (cwR h c x t op a k), fl_tot) r → ∃ kk, Ev d 169 (416, [some (.ref 223), some (.int c), some (.int x), some (.int t), some (.int op), some (.int a), some (.int kk)], [], (cwR h c x t op a 32), fl_tot) r
  | 0, k, hk, hf, e => by omega
  | f + 1, k, hk, hf, e => by
    have ek := i32n (n := k) (by omega)
    have S9 : SH (cwR h c x t op a k).2 := by rw [cwR_2]; exact S
    have e : Ev d 169 (323, [some (.ref 223), some (.int c), some (.int x), some (.int t), some (.int op), some (.int a), some (.int (Int32.ofNat k))], [.int (Int32.ofInt 32), .int (Int32.ofNat k)], (cwR h c x t op a k), fl_tot) r := e.bk [((2, [6, 0], 321), 0), ((1, [32], 323), 0)] [] (by decide +kernel) trivial rfl
    rcases b7_3 (T := 416) e (show fl_code 169 323 = some (7, [3, 416], 326) by decide +kernel) rfl rfl (kc (by decide) (by decide)) with ⟨c1, e⟩ | ⟨c1, e⟩
    · have k1 : k = 32 := by omega
      rw [k1] at e
      exact ⟨_, e⟩
    · have e : Ev d 169 (341, [some (.ref 223), some (.int c), some (.int x), some (.int t), some (.int op), some (.int a), some (.int (Int32.ofNat k))], [.int a, .int (Int32.ofNat k), .int (((Int32.ofInt 32) * t) + (Int32.ofNat k)), .ref 255], (cwR h c x t op a k), fl_tot) r := e.bk [((2, [0, 2], 327), 0), ((9, [10, 37], 330), 2), ((1, [32], 332), 0), ((2, [3, 0], 333), 0), ((5, [2], 334), 0), ((2, [6, 0], 336), 0), ((5, [0], 337), 0), ((2, [6, 0], 339), 0), ((2, [5, 0], 341), 0)] [255] (by decide +kernel) (show (cwR h c x t op a k).2 223 37 = some 255 ∧ True from ⟨(S9.m 37 255 (by decide)), trivial⟩) rfl
      rcases b7_1 (T := 357) e (show fl_code 169 341 = some (7, [1, 357], 344) by decide +kernel) rfl rfl rfl with ⟨c2, e⟩ | ⟨c2, e⟩
      · have e : Ev d 169 (369, [some (.ref 223), some (.int c), some (.int x), some (.int t), some (.int op), some (.int a), some (.int (Int32.ofNat k))], [.int ((cwR h c x t op a k).1 252 (((Int32.ofInt 32) * c) + (Int32.ofNat k)).toNatClampNeg), .int (((Int32.ofInt 32) * t) + (Int32.ofNat k)), .ref 255], (cwR h c x t op a k), fl_tot) r := e.bk [((2, [0, 2], 358), 0), ((9, [10, 34], 361), 2), ((1, [32], 363), 0), ((2, [1, 0], 364), 0), ((5, [2], 365), 0), ((2, [6, 0], 367), 0), ((5, [0], 368), 0), ((13, [], 369), 4)] [252] (by decide +kernel) (show (cwR h c x t op a k).2 223 34 = some 252 ∧ True from ⟨(S9.m 34 252 (by decide)), trivial⟩) rfl
        have r3_0 : (cwR h c x t op a k).1 252 (((Int32.ofInt 32) * c) + (Int32.ofNat k)).toNatClampNeg = h.1 252 (((Int32.ofInt 32) * c) + (Int32.ofNat k)).toNatClampNeg := cwR_out (by decide) k
        rw [r3_0] at e
        have e : Ev d 169 (370, [some (.ref 223), some (.int c), some (.int x), some (.int t), some (.int op), some (.int a), some (.int (Int32.ofNat k))], [], (fl_setI (cwR h c x t op a k) 255 (((Int32.ofInt 32) * t) + (Int32.ofNat k)).toNatClampNeg (h.1 252 (((Int32.ofInt 32) * c) + (Int32.ofNat k)).toNatClampNeg)), fl_tot) r := e.bk [((14, [], 370), 6)] [] (by decide +kernel) trivial rfl
        obtain ⟨g4h, q4⟩ : ∃ z, z = fl_setI (cwR h c x t op a k) 255 (((Int32.ofInt 32) * t) + (Int32.ofNat k)).toNatClampNeg (h.1 252 (((Int32.ofInt 32) * c) + (Int32.ofNat k)).toNatClampNeg) := ⟨_, rfl⟩
        rw [← q4] at e
        have S4 : SH g4h.2 := by rw [q4]; exact S9
        have e : Ev d 169 (385, [some (.ref 223), some (.int c), some (.int x), some (.int t), some (.int op), some (.int a), some (.int (Int32.ofNat k))], [.int a, .int (Int32.ofNat k), .int (((Int32.ofInt 32) * t) + (Int32.ofNat k)), .ref 256], g4h, fl_tot) r := e.bk [((2, [0, 2], 371), 0), ((9, [10, 38], 374), 2), ((1, [32], 376), 0), ((2, [3, 0], 377), 0), ((5, [2], 378), 0), ((2, [6, 0], 380), 0), ((5, [0], 381), 0), ((2, [6, 0], 383), 0), ((2, [5, 0], 385), 0)] [256] (by decide +kernel) (show g4h.2 223 38 = some 256 ∧ True from ⟨(S4.m 38 256 (by decide)), trivial⟩) rfl
        rcases b7_1 (T := 397) e (show fl_code 169 385 = some (7, [1, 397], 388) by decide +kernel) rfl rfl rfl with ⟨c5, e⟩ | ⟨c5, e⟩
        · have e : Ev d 169 (409, [some (.ref 223), some (.int c), some (.int x), some (.int t), some (.int op), some (.int a), some (.int (Int32.ofNat k))], [.int (g4h.1 253 (((Int32.ofInt 32) * c) + (Int32.ofNat k)).toNatClampNeg), .int (((Int32.ofInt 32) * t) + (Int32.ofNat k)), .ref 256], g4h, fl_tot) r := e.bk [((2, [0, 2], 398), 0), ((9, [10, 35], 401), 2), ((1, [32], 403), 0), ((2, [1, 0], 404), 0), ((5, [2], 405), 0), ((2, [6, 0], 407), 0), ((5, [0], 408), 0), ((11, [], 409), 4)] [253] (by decide +kernel) (show g4h.2 223 35 = some 253 ∧ True from ⟨(S4.m 35 253 (by decide)), trivial⟩) rfl
          have r6_0 : g4h.1 253 (((Int32.ofInt 32) * c) + (Int32.ofNat k)).toNatClampNeg = (cwR h c x t op a k).1 253 (((Int32.ofInt 32) * c) + (Int32.ofNat k)).toNatClampNeg := by rw [q4]; exact setI_no (by omega)
          have r6_1 : (cwR h c x t op a k).1 253 (((Int32.ofInt 32) * c) + (Int32.ofNat k)).toNatClampNeg = h.1 253 (((Int32.ofInt 32) * c) + (Int32.ofNat k)).toNatClampNeg := cwR_out (by decide) k
          rw [r6_0, r6_1] at e
          have e : Ev d 169 (410, [some (.ref 223), some (.int c), some (.int x), some (.int t), some (.int op), some (.int a), some (.int (Int32.ofNat k))], [], (fl_setI g4h 256 (((Int32.ofInt 32) * t) + (Int32.ofNat k)).toNatClampNeg (h.1 253 (((Int32.ofInt 32) * c) + (Int32.ofNat k)).toNatClampNeg)), fl_tot) r := e.bk [((12, [], 410), 6)] [] (by decide +kernel) trivial rfl
          obtain ⟨g7h, q7⟩ : ∃ z, z = fl_setI g4h 256 (((Int32.ofInt 32) * t) + (Int32.ofNat k)).toNatClampNeg (h.1 253 (((Int32.ofInt 32) * c) + (Int32.ofNat k)).toNatClampNeg) := ⟨_, rfl⟩
          rw [← q7] at e
          have S7 : SH g7h.2 := by rw [q7]; exact S4
          have e : Ev d 169 (319, [some (.ref 223), some (.int c), some (.int x), some (.int t), some (.int op), some (.int a), some (.int ((Int32.ofNat k) + (Int32.ofInt 1)))], [], g7h, fl_tot) r := e.bk [((4, [6, 1], 413), 0), ((8, [319], 416), 0)] [] (by decide +kernel) trivial rfl
          have ea : (k = a.toNatClampNeg ↔ (Int32.ofNat k).toInt = a.toInt) := by
           have := lc_clamp a0
           omega
          have et : g7h = cwR h c x t op a (k + 1) := by
            rw [q7, q4]
            show _ = fl_setI (fl_setI (cwR h c x t op a k) 255 (((Int32.ofInt 32) * t) + (Int32.ofNat k)).toNatClampNeg (if k = a.toNatClampNeg then (if op.toInt = 0 then Int32.ofInt 1 else Int32.ofInt 0) else h.1 252 (((Int32.ofInt 32) * c) + (Int32.ofNat k)).toNatClampNeg)) 256 (((Int32.ofInt 32) * t) + (Int32.ofNat k)).toNatClampNeg (if k = a.toNatClampNeg then h.1 231 x.toNatClampNeg else h.1 253 (((Int32.ofInt 32) * c) + (Int32.ofNat k)).toNatClampNeg)
            by_cases hk : k = a.toNatClampNeg
            · by_cases ho : op.toInt = 0
              · first | (exfalso; omega) | (rw [if_pos hk, if_pos ho, if_pos hk])
              · first | (exfalso; omega) | (rw [if_pos hk, if_neg ho, if_pos hk])
            · first | (exfalso; omega) | (rw [if_neg hk, if_neg hk])
          rw [et] at e
          exact z_cwr_l S a0 f (k := k + 1) (by omega) (by omega) (by rw [← o32 (by omega)]; exact e)
        · have e : Ev d 169 (394, [some (.ref 223), some (.int c), some (.int x), some (.int t), some (.int op), some (.int a), some (.int (Int32.ofNat k))], [.int (g4h.1 231 x.toNatClampNeg), .int (((Int32.ofInt 32) * t) + (Int32.ofNat k)), .ref 256], g4h, fl_tot) r := e.bk [((2, [0, 2], 389), 0), ((9, [10, 9], 392), 2), ((2, [2, 0], 393), 0), ((11, [], 394), 4)] [231] (by decide +kernel) (show g4h.2 223 9 = some 231 ∧ True from ⟨(S4.m 9 231 (by decide)), trivial⟩) rfl
          have r8_0 : g4h.1 231 x.toNatClampNeg = (cwR h c x t op a k).1 231 x.toNatClampNeg := by rw [q4]; exact setI_no (by omega)
          have r8_1 : (cwR h c x t op a k).1 231 x.toNatClampNeg = h.1 231 x.toNatClampNeg := cwR_out (by decide) k
          rw [r8_0, r8_1] at e
          have e : Ev d 169 (410, [some (.ref 223), some (.int c), some (.int x), some (.int t), some (.int op), some (.int a), some (.int (Int32.ofNat k))], [], (fl_setI g4h 256 (((Int32.ofInt 32) * t) + (Int32.ofNat k)).toNatClampNeg (h.1 231 x.toNatClampNeg)), fl_tot) r := e.bk [((8, [409], 397), 0), ((12, [], 410), 6)] [] (by decide +kernel) trivial rfl
          obtain ⟨g9h, q9⟩ : ∃ z, z = fl_setI g4h 256 (((Int32.ofInt 32) * t) + (Int32.ofNat k)).toNatClampNeg (h.1 231 x.toNatClampNeg) := ⟨_, rfl⟩
          rw [← q9] at e
          have S9 : SH g9h.2 := by rw [q9]; exact S4
          have e : Ev d 169 (319, [some (.ref 223), some (.int c), some (.int x), some (.int t), some (.int op), some (.int a), some (.int ((Int32.ofNat k) + (Int32.ofInt 1)))], [], g9h, fl_tot) r := e.bk [((4, [6, 1], 413), 0), ((8, [319], 416), 0)] [] (by decide +kernel) trivial rfl
          have ea : (k = a.toNatClampNeg ↔ (Int32.ofNat k).toInt = a.toInt) := by
           have := lc_clamp a0
           omega
          have et : g9h = cwR h c x t op a (k + 1) := by
            rw [q9, q4]
            show _ = fl_setI (fl_setI (cwR h c x t op a k) 255 (((Int32.ofInt 32) * t) + (Int32.ofNat k)).toNatClampNeg (if k = a.toNatClampNeg then (if op.toInt = 0 then Int32.ofInt 1 else Int32.ofInt 0) else h.1 252 (((Int32.ofInt 32) * c) + (Int32.ofNat k)).toNatClampNeg)) 256 (((Int32.ofInt 32) * t) + (Int32.ofNat k)).toNatClampNeg (if k = a.toNatClampNeg then h.1 231 x.toNatClampNeg else h.1 253 (((Int32.ofInt 32) * c) + (Int32.ofNat k)).toNatClampNeg)
            by_cases hk : k = a.toNatClampNeg
            · by_cases ho : op.toInt = 0
              · first | (exfalso; omega) | (rw [if_pos hk, if_pos ho, if_pos hk])
              · first | (exfalso; omega) | (rw [if_pos hk, if_neg ho, if_pos hk])
            · first | (exfalso; omega) | (rw [if_neg hk, if_neg hk])
          rw [et] at e
          exact z_cwr_l S a0 f (k := k + 1) (by omega) (by omega) (by rw [← o32 (by omega)]; exact e)
      · have e : Ev d 169 (346, [some (.ref 223), some (.int c), some (.int x), some (.int t), some (.int op), some (.int a), some (.int (Int32.ofNat k))], [.int op, .int (((Int32.ofInt 32) * t) + (Int32.ofNat k)), .ref 255], (cwR h c x t op a k), fl_tot) r := e.bk [((2, [4, 0], 346), 0)] [] (by decide +kernel) trivial rfl
        rcases b6_1 (T := 353) e (show fl_code 169 346 = some (6, [1, 353], 349) by decide +kernel) rfl rfl with ⟨c10, e⟩ | ⟨c10, e⟩
        · have e : Ev d 169 (370, [some (.ref 223), some (.int c), some (.int x), some (.int t), some (.int op), some (.int a), some (.int (Int32.ofNat k))], [], (fl_setI (cwR h c x t op a k) 255 (((Int32.ofInt 32) * t) + (Int32.ofNat k)).toNatClampNeg (Int32.ofInt 0)), fl_tot) r := e.bk [((1, [0], 354), 0), ((8, [369], 357), 0), ((14, [], 370), 6)] [] (by decide +kernel) trivial rfl
          obtain ⟨g11h, q11⟩ : ∃ z, z = fl_setI (cwR h c x t op a k) 255 (((Int32.ofInt 32) * t) + (Int32.ofNat k)).toNatClampNeg (Int32.ofInt 0) := ⟨_, rfl⟩
          rw [← q11] at e
          have S11 : SH g11h.2 := by rw [q11]; exact S9
          have e : Ev d 169 (385, [some (.ref 223), some (.int c), some (.int x), some (.int t), some (.int op), some (.int a), some (.int (Int32.ofNat k))], [.int a, .int (Int32.ofNat k), .int (((Int32.ofInt 32) * t) + (Int32.ofNat k)), .ref 256], g11h, fl_tot) r := e.bk [((2, [0, 2], 371), 0), ((9, [10, 38], 374), 2), ((1, [32], 376), 0), ((2, [3, 0], 377), 0), ((5, [2], 378), 0), ((2, [6, 0], 380), 0), ((5, [0], 381), 0), ((2, [6, 0], 383), 0), ((2, [5, 0], 385), 0)] [256] (by decide +kernel) (show g11h.2 223 38 = some 256 ∧ True from ⟨(S11.m 38 256 (by decide)), trivial⟩) rfl
          rcases b7_1 (T := 397) e (show fl_code 169 385 = some (7, [1, 397], 388) by decide +kernel) rfl rfl rfl with ⟨c12, e⟩ | ⟨c12, e⟩
          · have e : Ev d 169 (409, [some (.ref 223), some (.int c), some (.int x), some (.int t), some (.int op), some (.int a), some (.int (Int32.ofNat k))], [.int (g11h.1 253 (((Int32.ofInt 32) * c) + (Int32.ofNat k)).toNatClampNeg), .int (((Int32.ofInt 32) * t) + (Int32.ofNat k)), .ref 256], g11h, fl_tot) r := e.bk [((2, [0, 2], 398), 0), ((9, [10, 35], 401), 2), ((1, [32], 403), 0), ((2, [1, 0], 404), 0), ((5, [2], 405), 0), ((2, [6, 0], 407), 0), ((5, [0], 408), 0), ((11, [], 409), 4)] [253] (by decide +kernel) (show g11h.2 223 35 = some 253 ∧ True from ⟨(S11.m 35 253 (by decide)), trivial⟩) rfl
            have r13_0 : g11h.1 253 (((Int32.ofInt 32) * c) + (Int32.ofNat k)).toNatClampNeg = (cwR h c x t op a k).1 253 (((Int32.ofInt 32) * c) + (Int32.ofNat k)).toNatClampNeg := by rw [q11]; exact setI_no (by omega)
            have r13_1 : (cwR h c x t op a k).1 253 (((Int32.ofInt 32) * c) + (Int32.ofNat k)).toNatClampNeg = h.1 253 (((Int32.ofInt 32) * c) + (Int32.ofNat k)).toNatClampNeg := cwR_out (by decide) k
            rw [r13_0, r13_1] at e
            have e : Ev d 169 (410, [some (.ref 223), some (.int c), some (.int x), some (.int t), some (.int op), some (.int a), some (.int (Int32.ofNat k))], [], (fl_setI g11h 256 (((Int32.ofInt 32) * t) + (Int32.ofNat k)).toNatClampNeg (h.1 253 (((Int32.ofInt 32) * c) + (Int32.ofNat k)).toNatClampNeg)), fl_tot) r := e.bk [((12, [], 410), 6)] [] (by decide +kernel) trivial rfl
            obtain ⟨g14h, q14⟩ : ∃ z, z = fl_setI g11h 256 (((Int32.ofInt 32) * t) + (Int32.ofNat k)).toNatClampNeg (h.1 253 (((Int32.ofInt 32) * c) + (Int32.ofNat k)).toNatClampNeg) := ⟨_, rfl⟩
            rw [← q14] at e
            have S14 : SH g14h.2 := by rw [q14]; exact S11
            have e : Ev d 169 (319, [some (.ref 223), some (.int c), some (.int x), some (.int t), some (.int op), some (.int a), some (.int ((Int32.ofNat k) + (Int32.ofInt 1)))], [], g14h, fl_tot) r := e.bk [((4, [6, 1], 413), 0), ((8, [319], 416), 0)] [] (by decide +kernel) trivial rfl
            have ea : (k = a.toNatClampNeg ↔ (Int32.ofNat k).toInt = a.toInt) := by
             have := lc_clamp a0
             omega
            have et : g14h = cwR h c x t op a (k + 1) := by
              rw [q14, q11]
              show _ = fl_setI (fl_setI (cwR h c x t op a k) 255 (((Int32.ofInt 32) * t) + (Int32.ofNat k)).toNatClampNeg (if k = a.toNatClampNeg then (if op.toInt = 0 then Int32.ofInt 1 else Int32.ofInt 0) else h.1 252 (((Int32.ofInt 32) * c) + (Int32.ofNat k)).toNatClampNeg)) 256 (((Int32.ofInt 32) * t) + (Int32.ofNat k)).toNatClampNeg (if k = a.toNatClampNeg then h.1 231 x.toNatClampNeg else h.1 253 (((Int32.ofInt 32) * c) + (Int32.ofNat k)).toNatClampNeg)
              by_cases hk : k = a.toNatClampNeg
              · by_cases ho : op.toInt = 0
                · first | (exfalso; omega) | (rw [if_pos hk, if_pos ho, if_pos hk])
                · first | (exfalso; omega) | (rw [if_pos hk, if_neg ho, if_pos hk])
              · first | (exfalso; omega) | (rw [if_neg hk, if_neg hk])
            rw [et] at e
            exact z_cwr_l S a0 f (k := k + 1) (by omega) (by omega) (by rw [← o32 (by omega)]; exact e)
          · have e : Ev d 169 (394, [some (.ref 223), some (.int c), some (.int x), some (.int t), some (.int op), some (.int a), some (.int (Int32.ofNat k))], [.int (g11h.1 231 x.toNatClampNeg), .int (((Int32.ofInt 32) * t) + (Int32.ofNat k)), .ref 256], g11h, fl_tot) r := e.bk [((2, [0, 2], 389), 0), ((9, [10, 9], 392), 2), ((2, [2, 0], 393), 0), ((11, [], 394), 4)] [231] (by decide +kernel) (show g11h.2 223 9 = some 231 ∧ True from ⟨(S11.m 9 231 (by decide)), trivial⟩) rfl
            have r15_0 : g11h.1 231 x.toNatClampNeg = (cwR h c x t op a k).1 231 x.toNatClampNeg := by rw [q11]; exact setI_no (by omega)
            have r15_1 : (cwR h c x t op a k).1 231 x.toNatClampNeg = h.1 231 x.toNatClampNeg := cwR_out (by decide) k
            rw [r15_0, r15_1] at e
            have e : Ev d 169 (410, [some (.ref 223), some (.int c), some (.int x), some (.int t), some (.int op), some (.int a), some (.int (Int32.ofNat k))], [], (fl_setI g11h 256 (((Int32.ofInt 32) * t) + (Int32.ofNat k)).toNatClampNeg (h.1 231 x.toNatClampNeg)), fl_tot) r := e.bk [((8, [409], 397), 0), ((12, [], 410), 6)] [] (by decide +kernel) trivial rfl
            obtain ⟨g16h, q16⟩ : ∃ z, z = fl_setI g11h 256 (((Int32.ofInt 32) * t) + (Int32.ofNat k)).toNatClampNeg (h.1 231 x.toNatClampNeg) := ⟨_, rfl⟩
            rw [← q16] at e
            have S16 : SH g16h.2 := by rw [q16]; exact S11
            have e : Ev d 169 (319, [some (.ref 223), some (.int c), some (.int x), some (.int t), some (.int op), some (.int a), some (.int ((Int32.ofNat k) + (Int32.ofInt 1)))], [], g16h, fl_tot) r := e.bk [((4, [6, 1], 413), 0), ((8, [319], 416), 0)] [] (by decide +kernel) trivial rfl
            have ea : (k = a.toNatClampNeg ↔ (Int32.ofNat k).toInt = a.toInt) := by
             have := lc_clamp a0
             omega
            have et : g16h = cwR h c x t op a (k + 1) := by
              rw [q16, q11]
              show _ = fl_setI (fl_setI (cwR h c x t op a k) 255 (((Int32.ofInt 32) * t) + (Int32.ofNat k)).toNatClampNeg (if k = a.toNatClampNeg then (if op.toInt = 0 then Int32.ofInt 1 else Int32.ofInt 0) else h.1 252 (((Int32.ofInt 32) * c) + (Int32.ofNat k)).toNatClampNeg)) 256 (((Int32.ofInt 32) * t) + (Int32.ofNat k)).toNatClampNeg (if k = a.toNatClampNeg then h.1 231 x.toNatClampNeg else h.1 253 (((Int32.ofInt 32) * c) + (Int32.ofNat k)).toNatClampNeg)
              by_cases hk : k = a.toNatClampNeg
              · by_cases ho : op.toInt = 0
                · first | (exfalso; omega) | (rw [if_pos hk, if_pos ho, if_pos hk])
                · first | (exfalso; omega) | (rw [if_pos hk, if_neg ho, if_pos hk])
              · first | (exfalso; omega) | (rw [if_neg hk, if_neg hk])
            rw [et] at e
            exact z_cwr_l S a0 f (k := k + 1) (by omega) (by omega) (by rw [← o32 (by omega)]; exact e)
        · have e : Ev d 169 (370, [some (.ref 223), some (.int c), some (.int x), some (.int t), some (.int op), some (.int a), some (.int (Int32.ofNat k))], [], (fl_setI (cwR h c x t op a k) 255 (((Int32.ofInt 32) * t) + (Int32.ofNat k)).toNatClampNeg (Int32.ofInt 1)), fl_tot) r := e.bk [((1, [1], 350), 0), ((8, [369], 353), 0), ((14, [], 370), 6)] [] (by decide +kernel) trivial rfl
          obtain ⟨g17h, q17⟩ : ∃ z, z = fl_setI (cwR h c x t op a k) 255 (((Int32.ofInt 32) * t) + (Int32.ofNat k)).toNatClampNeg (Int32.ofInt 1) := ⟨_, rfl⟩
          rw [← q17] at e
          have S17 : SH g17h.2 := by rw [q17]; exact S9
          have e : Ev d 169 (385, [some (.ref 223), some (.int c), some (.int x), some (.int t), some (.int op), some (.int a), some (.int (Int32.ofNat k))], [.int a, .int (Int32.ofNat k), .int (((Int32.ofInt 32) * t) + (Int32.ofNat k)), .ref 256], g17h, fl_tot) r := e.bk [((2, [0, 2], 371), 0), ((9, [10, 38], 374), 2), ((1, [32], 376), 0), ((2, [3, 0], 377), 0), ((5, [2], 378), 0), ((2, [6, 0], 380), 0), ((5, [0], 381), 0), ((2, [6, 0], 383), 0), ((2, [5, 0], 385), 0)] [256] (by decide +kernel) (show g17h.2 223 38 = some 256 ∧ True from ⟨(S17.m 38 256 (by decide)), trivial⟩) rfl
          rcases b7_1 (T := 397) e (show fl_code 169 385 = some (7, [1, 397], 388) by decide +kernel) rfl rfl rfl with ⟨c18, e⟩ | ⟨c18, e⟩
          · have e : Ev d 169 (409, [some (.ref 223), some (.int c), some (.int x), some (.int t), some (.int op), some (.int a), some (.int (Int32.ofNat k))], [.int (g17h.1 253 (((Int32.ofInt 32) * c) + (Int32.ofNat k)).toNatClampNeg), .int (((Int32.ofInt 32) * t) + (Int32.ofNat k)), .ref 256], g17h, fl_tot) r := e.bk [((2, [0, 2], 398), 0), ((9, [10, 35], 401), 2), ((1, [32], 403), 0), ((2, [1, 0], 404), 0), ((5, [2], 405), 0), ((2, [6, 0], 407), 0), ((5, [0], 408), 0), ((11, [], 409), 4)] [253] (by decide +kernel) (show g17h.2 223 35 = some 253 ∧ True from ⟨(S17.m 35 253 (by decide)), trivial⟩) rfl
            have r19_0 : g17h.1 253 (((Int32.ofInt 32) * c) + (Int32.ofNat k)).toNatClampNeg = (cwR h c x t op a k).1 253 (((Int32.ofInt 32) * c) + (Int32.ofNat k)).toNatClampNeg := by rw [q17]; exact setI_no (by omega)
            have r19_1 : (cwR h c x t op a k).1 253 (((Int32.ofInt 32) * c) + (Int32.ofNat k)).toNatClampNeg = h.1 253 (((Int32.ofInt 32) * c) + (Int32.ofNat k)).toNatClampNeg := cwR_out (by decide) k
            rw [r19_0, r19_1] at e
            have e : Ev d 169 (410, [some (.ref 223), some (.int c), some (.int x), some (.int t), some (.int op), some (.int a), some (.int (Int32.ofNat k))], [], (fl_setI g17h 256 (((Int32.ofInt 32) * t) + (Int32.ofNat k)).toNatClampNeg (h.1 253 (((Int32.ofInt 32) * c) + (Int32.ofNat k)).toNatClampNeg)), fl_tot) r := e.bk [((12, [], 410), 6)] [] (by decide +kernel) trivial rfl
            obtain ⟨g20h, q20⟩ : ∃ z, z = fl_setI g17h 256 (((Int32.ofInt 32) * t) + (Int32.ofNat k)).toNatClampNeg (h.1 253 (((Int32.ofInt 32) * c) + (Int32.ofNat k)).toNatClampNeg) := ⟨_, rfl⟩
            rw [← q20] at e
            have S20 : SH g20h.2 := by rw [q20]; exact S17
            have e : Ev d 169 (319, [some (.ref 223), some (.int c), some (.int x), some (.int t), some (.int op), some (.int a), some (.int ((Int32.ofNat k) + (Int32.ofInt 1)))], [], g20h, fl_tot) r := e.bk [((4, [6, 1], 413), 0), ((8, [319], 416), 0)] [] (by decide +kernel) trivial rfl
            have ea : (k = a.toNatClampNeg ↔ (Int32.ofNat k).toInt = a.toInt) := by
             have := lc_clamp a0
             omega
            have et : g20h = cwR h c x t op a (k + 1) := by
              rw [q20, q17]
              show _ = fl_setI (fl_setI (cwR h c x t op a k) 255 (((Int32.ofInt 32) * t) + (Int32.ofNat k)).toNatClampNeg (if k = a.toNatClampNeg then (if op.toInt = 0 then Int32.ofInt 1 else Int32.ofInt 0) else h.1 252 (((Int32.ofInt 32) * c) + (Int32.ofNat k)).toNatClampNeg)) 256 (((Int32.ofInt 32) * t) + (Int32.ofNat k)).toNatClampNeg (if k = a.toNatClampNeg then h.1 231 x.toNatClampNeg else h.1 253 (((Int32.ofInt 32) * c) + (Int32.ofNat k)).toNatClampNeg)
              by_cases hk : k = a.toNatClampNeg
              · by_cases ho : op.toInt = 0
                · first | (exfalso; omega) | (rw [if_pos hk, if_pos ho, if_pos hk])
                · first | (exfalso; omega) | (rw [if_pos hk, if_neg ho, if_pos hk])
              · first | (exfalso; omega) | (rw [if_neg hk, if_neg hk])
            rw [et] at e
            exact z_cwr_l S a0 f (k := k + 1) (by omega) (by omega) (by rw [← o32 (by omega)]; exact e)
          · have e : Ev d 169 (394, [some (.ref 223), some (.int c), some (.int x), some (.int t), some (.int op), some (.int a), some (.int (Int32.ofNat k))], [.int (g17h.1 231 x.toNatClampNeg), .int (((Int32.ofInt 32) * t) + (Int32.ofNat k)), .ref 256], g17h, fl_tot) r := e.bk [((2, [0, 2], 389), 0), ((9, [10, 9], 392), 2), ((2, [2, 0], 393), 0), ((11, [], 394), 4)] [231] (by decide +kernel) (show g17h.2 223 9 = some 231 ∧ True from ⟨(S17.m 9 231 (by decide)), trivial⟩) rfl
            have r21_0 : g17h.1 231 x.toNatClampNeg = (cwR h c x t op a k).1 231 x.toNatClampNeg := by rw [q17]; exact setI_no (by omega)
            have r21_1 : (cwR h c x t op a k).1 231 x.toNatClampNeg = h.1 231 x.toNatClampNeg := cwR_out (by decide) k
            rw [r21_0, r21_1] at e
            have e : Ev d 169 (410, [some (.ref 223), some (.int c), some (.int x), some (.int t), some (.int op), some (.int a), some (.int (Int32.ofNat k))], [], (fl_setI g17h 256 (((Int32.ofInt 32) * t) + (Int32.ofNat k)).toNatClampNeg (h.1 231 x.toNatClampNeg)), fl_tot) r := e.bk [((8, [409], 397), 0), ((12, [], 410), 6)] [] (by decide +kernel) trivial rfl
            obtain ⟨g22h, q22⟩ : ∃ z, z = fl_setI g17h 256 (((Int32.ofInt 32) * t) + (Int32.ofNat k)).toNatClampNeg (h.1 231 x.toNatClampNeg) := ⟨_, rfl⟩
            rw [← q22] at e
            have S22 : SH g22h.2 := by rw [q22]; exact S17
            have e : Ev d 169 (319, [some (.ref 223), some (.int c), some (.int x), some (.int t), some (.int op), some (.int a), some (.int ((Int32.ofNat k) + (Int32.ofInt 1)))], [], g22h, fl_tot) r := e.bk [((4, [6, 1], 413), 0), ((8, [319], 416), 0)] [] (by decide +kernel) trivial rfl
            have ea : (k = a.toNatClampNeg ↔ (Int32.ofNat k).toInt = a.toInt) := by
             have := lc_clamp a0
             omega
            have et : g22h = cwR h c x t op a (k + 1) := by
              rw [q22, q17]
              show _ = fl_setI (fl_setI (cwR h c x t op a k) 255 (((Int32.ofInt 32) * t) + (Int32.ofNat k)).toNatClampNeg (if k = a.toNatClampNeg then (if op.toInt = 0 then Int32.ofInt 1 else Int32.ofInt 0) else h.1 252 (((Int32.ofInt 32) * c) + (Int32.ofNat k)).toNatClampNeg)) 256 (((Int32.ofInt 32) * t) + (Int32.ofNat k)).toNatClampNeg (if k = a.toNatClampNeg then h.1 231 x.toNatClampNeg else h.1 253 (((Int32.ofInt 32) * c) + (Int32.ofNat k)).toNatClampNeg)
              by_cases hk : k = a.toNatClampNeg
              · by_cases ho : op.toInt = 0
                · first | (exfalso; omega) | (rw [if_pos hk, if_pos ho, if_pos hk])
                · first | (exfalso; omega) | (rw [if_pos hk, if_neg ho, if_pos hk])
              · first | (exfalso; omega) | (rw [if_neg hk, if_neg hk])
            rw [et] at e
            exact z_cwr_l S a0 f (k := k + 1) (by omega) (by omega) (by rw [← o32 (by omega)]; exact e)
