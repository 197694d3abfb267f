
set_option maxRecDepth 20000
/-! ANSWERS OF THE RUN, COMPARED -/
theorem ran_iff {h : Hp} (O : RO h) : (h.1 0 5).toInt = (h.1 223 13).toInt := by rw [O.1]
def wcnt (h : Hp) : Nat → Int32
  | 0 => Int32.ofInt 0
  | n + 1 => if (h.1 245 n).toInt ≠ 0 then wcnt h n + Int32.ofInt 1 else wcnt h n
theorem x_wait_l {d n : Nat} {h : Hp} {r : Option Value × Hp × Nat} (S : SH h.2) (hn : (h.1 1 3).toInt = n) (h5 : n ≤ 5) (W : ∀ c : Nat, c < n → ∀ (d : Nat) (r : Option Value × Hp × Nat), Ev d 79 (0, [some (.ref (148 + 12 * c)), none], [], h, fl_tot) r → ∃ v, r = (some v, h, fl_tot) ∧ (((h.1 245 c).toInt = 0 ∧ v = .null) ∨ ((h.1 245 c).toInt ≠ 0 ∧ ∃ x : Nat, v = .ref x))) : ∀ (f k : Nat), k ≤ n → n - k < f → Ev d 87 (4, [some (.ref 1), some (.int (wcnt h k)), some (.int (Int32.ofNat k))], [], h, fl_tot) r → r = (some (.int (wcnt h n)), h, fl_tot)
  | 0, k, _, hf, _ => by omega
  | f + 1, k, hk, hf, e => by
    rcases xt_cnt87_1 S e with ⟨q, w⟩ | ⟨q, -, -, e⟩
    · rw [hn, i32n (by omega)] at q
      rw [w, show k = n by omega]
    · rw [hn, i32n (by omega)] at q
      rw [o32c (by omega)] at e
      obtain ⟨d3, v3, h3, n3, z3, ec3, e⟩ := b_call (m2 := 79) (k := 0) (nL := 2) (as := [.ref (148 + 12 * k)]) (rest := []) (L := [some (.ref (148 + 12 * k)), none]) e (show fl_code 87 18 = some (18, [((79 : Nat) : Int), ((0 : Nat) : Int)], 21) by decide +kernel) rfl (by decide +kernel) rfl rfl rfl
      obtain ⟨v, w, C⟩ := W k (by omega) _ _ ec3
      obtain ⟨w1, w2, w3⟩ := tri w
      rw [w1, w2, w3] at e
      rcases C with ⟨c, rfl⟩ | ⟨c, x, rfl⟩
      · have e : Ev d 87 (21, [some (.ref 1), some (.int (wcnt h k)), some (.int (Int32.ofNat k))], [.null], h, fl_tot) r := e
        have e := xt_cnt87_n S e
        rw [o32 (by omega), show wcnt h k = wcnt h (k + 1) from (if_neg (fun z => z c)).symm] at e
        exact x_wait_l S hn h5 W f (k + 1) (by omega) (by omega) e
      · have e : Ev d 87 (21, [some (.ref 1), some (.int (wcnt h k)), some (.int (Int32.ofNat k))], [.ref x], h, fl_tot) r := e
        have e := xt_cnt87_r S e
        rw [o32 (by omega), show wcnt h k + Int32.ofInt 1 = wcnt h (k + 1) from (if_pos c).symm] at e
        exact x_wait_l S hn h5 W f (k + 1) (by omega) (by omega) e
theorem m_wait_l {d n : Nat} {h : Hp} {w : Int32} {r : Option Value × Hp × Nat} (S : SH h.2) (hn : (h.1 223 4).toInt = n) (h5 : n ≤ 5) : ∀ (f k : Nat), k ≤ n → n - k < f → Ev d 183 (113, [some (.ref 223), some (.int w), some (.int (wcnt h k)), some (.int (Int32.ofNat k))], [], h, fl_tot) r → ((h.1 223 13).toInt = 0 ∧ r = (some (.int (Int32.ofInt (-3))), h, fl_tot)) ∨ ((h.1 223 13).toInt ≠ 0 ∧ r = (some (.int (wcnt h n)), h, fl_tot))
  | 0, k, _, hf, _ => by omega
  | f + 1, k, hk, hf, e => by
    rcases xm_count_w S e with ⟨q, c, w⟩ | ⟨q, c, w⟩ | ⟨q, c, e⟩ | ⟨q, c, e⟩
    · exact Or.inl ⟨c, w⟩
    · rw [hn, i32n (by omega)] at q
      rw [show k = n by omega] at w
      exact Or.inr ⟨c, w⟩
    · rw [hn, i32n (by omega)] at q
      rw [o32c (by omega)] at c
      have z : wcnt h k + Int32.ofInt 0 = wcnt h (k + 1) := by
        have a : wcnt h (k + 1) = wcnt h k := if_neg (fun z => z c)
        rw [a]
        exact Int32.add_zero _
      rw [o32 (by omega), z] at e
      exact m_wait_l S hn h5 f (k + 1) (by omega) (by omega) e
    · rw [hn, i32n (by omega)] at q
      rw [o32c (by omega)] at c
      rw [o32 (by omega), show wcnt h k + Int32.ofInt 1 = wcnt h (k + 1) from (if_pos c).symm] at e
      exact m_wait_l S hn h5 f (k + 1) (by omega) (by omega) e
theorem cmp_count {h h1 h2 : Hp} {d d2 : Nat} {a : Int32} {w v : Value} (U : LI h) (O : RO h) (hT : TInv h) (X : Ev d 85 (0, [some (.ref 0), some (.int a)], [], h, fl_tot) (some w, h1, fl_tot)) (M : Ev d2 183 (0, [some (.ref 223), some (.int a), none, none], [], h1, fl_tot) (some v, h2, fl_tot)) : w = v := by
  have S := U.1.1
  have rn := ran_iff O
  have tc := TI_cnt hT
  have Q := qt_i hT
  obtain ⟨U0, ⟨U1, U2⟩, U4, U5, U6⟩ := U.1
  have c3 : (h.1 1 3).toInt = qc h := by rw [U2]; exact Q.2.2.2
  have same : ∀ {y : Int32}, (some w, h1, fl_tot) = (some (Value.int y), h, fl_tot) → Ev d2 183 (0, [some (.ref 223), some (.int a), none, none], [], h, fl_tot) (some v, h2, fl_tot) ∧ w = .int y := fun z => by
    obtain ⟨x1, x2, -⟩ := tri z
    cases x1
    rw [x2] at M
    exact ⟨M, rfl⟩
  have fin : ∀ {y : Int32} {h' : Hp}, (some v, h2, fl_tot) = (some (Value.int y), h', fl_tot) → w = .int y → w = v := fun z e => by
    obtain ⟨x1, -, -⟩ := tri z
    cases x1
    exact e
  rcases xt_count S X with ⟨q, x⟩ | ⟨-, -, -, q, x⟩ | ⟨-, -, -, -, q, x⟩ | ⟨-, -, -, -, -, q, e⟩ | ⟨-, -, -, rr, -, -, -, q, x⟩ | ⟨-, -, -, rr, -, -, -, -, q, x⟩ | ⟨q1, q2, -, rr, n0, n1, n2, n3, n4, e⟩ | ⟨q1, q2, q3, rr, x⟩ | ⟨-, q, x⟩
  · obtain ⟨M', e1⟩ := same x
    rcases xm_count_0 S M' with ⟨c, -⟩ | ⟨-, c, -⟩ | ⟨-, -, c, -⟩ | ⟨-, -, -, c, -⟩ | ⟨-, -, -, c, -⟩ | ⟨-, -, -, -, c, -⟩ | ⟨-, -, -, -, c, -⟩ | ⟨-, -, -, -, -, c, -⟩ | ⟨-, -, -, -, -, -, m⟩
    all_goals first | (exfalso; omega; done) | exact fin m e1
  · obtain ⟨M', e1⟩ := same x
    rcases xm_count_0 S M' with ⟨c, m⟩ | ⟨c, -⟩ | ⟨c, -⟩ | ⟨c, -⟩ | ⟨c, -⟩ | ⟨c, -⟩ | ⟨c, -⟩ | ⟨c, -⟩ | ⟨c, -⟩
    all_goals first | (exfalso; omega; done) | exact fin m (by rw [e1, U1])
  · obtain ⟨M', e1⟩ := same x
    rcases xm_count_0 S M' with ⟨c, -⟩ | ⟨-, c, m⟩ | ⟨-, c, -⟩ | ⟨-, c, -⟩ | ⟨-, c, -⟩ | ⟨-, c, -⟩ | ⟨-, c, -⟩ | ⟨-, c, -⟩ | ⟨-, c, -⟩
    all_goals first | (exfalso; omega; done) | exact fin m (by rw [e1, U2])
  · obtain ⟨d3, v3, h3, n3, z3, ec3, e⟩ := b_call (m2 := 86) (k := 0) (nL := 3) (as := [.ref 1]) (rest := []) (L := [some (.ref 1), none, none]) e (show fl_code 85 84 = some (18, [((86 : Nat) : Int), ((0 : Nat) : Int)], 87) by decide +kernel) rfl (by decide +kernel) rfl rfl rfl
    obtain ⟨w1, w2, w3⟩ := tri (x_countActs S c3 Q.2.2.1 ec3)
    rw [w1, w2, w3] at e
    have e : Ev d 85 (87, [some (.ref 0), some (.int a)], [.int (sumM h (qc h))], h, fl_tot) (some w, h1, fl_tot) := e
    obtain ⟨M', e1⟩ := same (xt_count_b S e)
    rcases xm_count_0 S M' with ⟨c, -⟩ | ⟨-, c, -⟩ | ⟨-, -, c, m⟩ | ⟨-, -, c, -⟩ | ⟨-, -, c, -⟩ | ⟨-, -, c, -⟩ | ⟨-, -, c, -⟩ | ⟨-, -, c, -⟩ | ⟨-, -, c, -⟩
    all_goals first | (exfalso; omega; done) | skip
    have m := xm_count2_l S Q.2.2.2 Q.2.2.1 (qc h + 1) (k := 0) (i := Int32.ofInt 0) (by rfl) (by omega) (by omega) m
    have es : ∀ n : Nat, n ≤ qc h → sumM h n = sumA h n := fun n => by
      induction n with
      | zero => intro _; rfl
      | succ n ih =>
        intro hn
        show sumM h n + h.1 (148 + 12 * n) 3 = sumA h n + h.1 227 n
        rw [ih (by omega), (U6 n (by omega) (by omega)).1]
    exact fin m (by rw [e1, es _ (Nat.le_refl _)])
  · obtain ⟨M', e1⟩ := same x
    obtain ⟨⟨st, p1, p2, p3⟩, p4, p5⟩ := O.2.2 (by rw [← rn]; exact rr)
    rcases xm_count_0 S M' with ⟨c, -⟩ | ⟨-, c, -⟩ | ⟨-, -, c, -⟩ | ⟨-, -, -, c, c2, -⟩ | ⟨-, -, -, c, c2, m⟩ | ⟨-, -, -, c, -⟩ | ⟨-, -, -, c, -⟩ | ⟨-, -, -, c, -⟩ | ⟨-, -, -, c, -⟩
    all_goals first | (exfalso; omega; done) | exact fin m (by rw [e1, p2, p3])
  · obtain ⟨M', e1⟩ := same x
    obtain ⟨⟨st, p1, p2, p3⟩, p4, p5⟩ := O.2.2 (by rw [← rn]; exact rr)
    rcases xm_count_0 S M' with ⟨c, -⟩ | ⟨-, c, -⟩ | ⟨-, -, c, -⟩ | ⟨-, -, -, c, -⟩ | ⟨-, -, -, c, -⟩ | ⟨-, -, -, -, c, c2, -⟩ | ⟨-, -, -, -, c, c2, m⟩ | ⟨-, -, -, -, c, -⟩ | ⟨-, -, -, -, c, -⟩
    all_goals first | (exfalso; omega; done) | exact fin m (by rw [e1, p4])
  · obtain ⟨-, -, p5⟩ := O.2.2 (by rw [← rn]; exact rr)
    obtain ⟨d3, v3, h3, n3', z3, ec3, e⟩ := b_call (m2 := 87) (k := 0) (nL := 3) (as := [.ref 1]) (rest := []) (L := [some (.ref 1), none, none]) e (show fl_code 85 108 = some (18, [((87 : Nat) : Int), ((0 : Nat) : Int)], 111) by decide +kernel) rfl (by decide +kernel) rfl rfl rfl
    have wl := x_wait_l S c3 Q.2.2.1 (fun c hc d r ew => by
      obtain ⟨⟨i, a1, a2, a3, a4⟩, -⟩ := p5 c hc
      have q8 := (q5c hT).2 c (by omega)
      have em : (h.1 (148 + 12 * c) 3).toInt = qm h c := by
        rw [(U6 c (by omega) (by rw [c3]; omega)).1]
        exact (lc_clamp (TI_mm hT (c := c) (by omega)).1).symm
      have e4 : (h.1 (148 + 12 * c) 4).toInt = i := by rw [a1, i32n (by omega)]
      have e4' : (h.1 (148 + 12 * c) 4).toNatClampNeg = i := by rw [a1, o32c (by omega)]
      rcases y_waiting S (by omega) ew with ⟨y1, y⟩ | ⟨y1, y2, y⟩ | ⟨y1, y2, -, -, y3, y⟩ | ⟨y1, y2, -, -, y3, y⟩
      · refine ⟨_, y, Or.inl ⟨?_, rfl⟩⟩
        rw [a4 (by omega)]
        decide
      · omega
      · refine ⟨_, y, Or.inl ⟨?_, rfl⟩⟩
        rw [e4', a3 (by omega)] at y3
        exact y3
      · refine ⟨_, y, Or.inr ⟨?_, _, rfl⟩⟩
        rw [e4', a3 (by omega)] at y3
        exact y3) (qc h + 1) 0 (by omega) (by omega) (xt_cnt87_0 S ec3)
    obtain ⟨w1, w2, w3⟩ := tri wl
    rw [w1, w2, w3] at e
    have e : Ev d 85 (111, [some (.ref 0), some (.int a)], [.int (wcnt h (qc h))], h, fl_tot) (some w, h1, fl_tot) := e
    obtain ⟨M', e1⟩ := same (xt_count_c S e)
    rcases xm_count_0 S M' with ⟨c, -⟩ | ⟨-, c, -⟩ | ⟨-, -, c, -⟩ | ⟨-, -, -, c, -⟩ | ⟨-, -, -, c, -⟩ | ⟨-, -, -, -, c, -⟩ | ⟨-, -, -, -, c, -⟩ | ⟨-, -, -, -, -, c, m⟩ | ⟨-, -, -, -, -, c, -⟩
    all_goals first | (exfalso; omega; done) | skip
    rcases m_wait_l S Q.2.2.2 Q.2.2.1 (qc h + 1) 0 (by omega) (by omega) m with ⟨c, -⟩ | ⟨-, m⟩
    · exfalso
      omega
    · exact fin m e1
  · obtain ⟨M', e1⟩ := same x
    rcases xm_count_0 S M' with ⟨c, -⟩ | ⟨-, c, -⟩ | ⟨-, -, c, -⟩ | ⟨-, -, -, c, c2, m⟩ | ⟨-, -, -, c, c2, -⟩ | ⟨-, -, -, -, c, c2, m⟩ | ⟨-, -, -, -, c, c2, -⟩ | ⟨-, -, -, -, -, c, m⟩ | ⟨c0, c1, c2, c3', c4, c5, -⟩
    · exfalso; omega
    · exfalso; omega
    · exfalso; omega
    · exact fin m e1
    · exfalso; omega
    · exact fin m e1
    · exfalso; omega
    · rcases m_wait_l S Q.2.2.2 Q.2.2.1 (qc h + 1) 0 (by omega) (by omega) m with ⟨-, m⟩ | ⟨c, -⟩
      · exact fin m e1
      · exfalso; omega
    · exfalso; omega
  · obtain ⟨M', e1⟩ := same x
    rcases xm_count_0 S M' with ⟨c, -⟩ | ⟨-, c, -⟩ | ⟨-, -, c, -⟩ | ⟨-, -, -, c, -⟩ | ⟨-, -, -, c, -⟩ | ⟨-, -, -, -, c, -⟩ | ⟨-, -, -, -, c, -⟩ | ⟨-, -, -, -, -, c, -⟩ | ⟨-, -, -, -, -, -, m⟩
    all_goals first | (exfalso; omega; done) | exact fin m e1
