
set_option maxRecDepth 20000
/-! ABOUT, COMPARED -/
theorem subI0 {x : Int32} (h : 0 ≤ x.toInt) : (x - Int32.ofInt 1).toInt = x.toInt - 1 := by
  have e : (Int32.ofInt 1).toInt = 1 := by decide
  rw [Int32.toInt_sub, e]
  have := Int32.toInt_lt x
  rw [Int.bmod_eq_of_le (by omega) (by omega)]
def ps (h : Hp) (t c : Nat) : Nat → Int32
  | 0 => Int32.ofInt 0
  | k + 1 => ps h t c k + h.1 (12 + 24 * t + 4 * k) c
theorem ps_4 (h : Hp) (t c : Nat) : ps h t c 4 = sum4 h t c := by
  show (((Int32.ofInt 0 + h.1 (12 + 24 * t + 4 * 0) c) + h.1 (12 + 24 * t + 4 * 1) c) + h.1 (12 + 24 * t + 4 * 2) c) + h.1 (12 + 24 * t + 4 * 3) c = sum4 h t c
  rw [show Int32.ofInt 0 + h.1 (12 + 24 * t + 4 * 0) c = h.1 (12 + 24 * t + 4 * 0) c from Int32.zero_add _, show 12 + 24 * t + 4 * 0 = 12 + 24 * t by omega, show 12 + 24 * t + 4 * 1 = 16 + 24 * t by omega, show 12 + 24 * t + 4 * 2 = 20 + 24 * t by omega, show 12 + 24 * t + 4 * 3 = 24 + 24 * t by omega]
  rfl
def pr (G N : Nat → Int32) : Nat → Int32
  | 0 => Int32.ofInt 0
  | k + 1 => pr G N k + (if (G k).toInt = 0 then N k else (Int32.ofInt 2) * N k)
theorem pr_eq {G N G' N' : Nat → Int32} : ∀ n, (∀ k, k < n → G k = G' k ∧ N k = N' k) → pr G N n = pr G' N' n
  | 0, _ => rfl
  | n + 1, f => by
    show pr G N n + _ = pr G' N' n + _
    rw [pr_eq n (fun k hk => f k (by omega)), (f n (by omega)).1, (f n (by omega)).2]
theorem xab_g {d t : Nat} {h : Hp} {r : Option Value × Hp × Nat} (S : SH h.2) (ht : t < 6) : ∀ (f k : Nat), k ≤ 4 → 4 - k < f → Ev d 100 (4, [some (.ref (4 + 24 * t)), some (.int (ps h t 7 k)), some (.int (Int32.ofNat k))], [], h, fl_tot) r → r = (some (.int (sum4 h t 7)), h, fl_tot)
  | 0, k, hk, hf, e => by omega
  | f + 1, k, hk, hf, e => by
    have E := ya_gl S ht e
    rw [i32n (n := k) (by omega), o32c (n := k) (by omega), o32 (by omega)] at E
    rcases E with ⟨z, w⟩ | ⟨z, -, -, e⟩
    · have k4 : k = 4 := by omega
      subst k4
      rw [w, ps_4]
    · exact xab_g S ht f (k + 1) (by omega) (by omega) e
theorem xab_m {d t : Nat} {h : Hp} {r : Option Value × Hp × Nat} (S : SH h.2) (ht : t < 6) : ∀ (f k : Nat), k ≤ 4 → 4 - k < f → Ev d 101 (4, [some (.ref (4 + 24 * t)), some (.int (ps h t 8 k)), some (.int (Int32.ofNat k))], [], h, fl_tot) r → r = (some (.int (sum4 h t 8)), h, fl_tot)
  | 0, k, hk, hf, e => by omega
  | f + 1, k, hk, hf, e => by
    have E := ya_ml S ht e
    rw [i32n (n := k) (by omega), o32c (n := k) (by omega), o32 (by omega)] at E
    rcases E with ⟨z, w⟩ | ⟨z, -, -, e⟩
    · have k4 : k = 4 := by omega
      subst k4
      rw [w, ps_4]
    · exact xab_m S ht f (k + 1) (by omega) (by omega) e
theorem xab_r {d t : Nat} {h : Hp} {r : Option Value × Hp × Nat} (S : SH h.2) (ht : t < 6) : ∀ (f k : Nat), k ≤ 4 → 4 - k < f → Ev d 102 (4, [some (.ref (4 + 24 * t)), some (.int (pr (fun k => h.1 (12 + 24 * t + 4 * k) 5) (fun k => h.1 (12 + 24 * t + 4 * k) 3) k)), some (.int (Int32.ofNat k))], [], h, fl_tot) r → r = (some (.int (pr (fun k => h.1 (12 + 24 * t + 4 * k) 5) (fun k => h.1 (12 + 24 * t + 4 * k) 3) 4)), h, fl_tot)
  | 0, k, hk, hf, e => by omega
  | f + 1, k, hk, hf, e => by
    have E := ya_rl S ht e
    rw [i32n (n := k) (by omega), o32c (n := k) (by omega), o32 (by omega)] at E
    rcases E with ⟨z, w⟩ | ⟨z, -, -, c, e⟩ | ⟨z, -, -, c, e⟩
    · have k4 : k = 4 := by omega
      subst k4
      exact w
    · refine xab_r (d := d) S ht f (k + 1) (by omega) (by omega) ?_
      show Ev d 102 (4, [some (.ref (4 + 24 * t)), some (.int (pr (fun k => h.1 (12 + 24 * t + 4 * k) 5) (fun k => h.1 (12 + 24 * t + 4 * k) 3) k + (if (h.1 (12 + 24 * t + 4 * k) 5).toInt = 0 then h.1 (12 + 24 * t + 4 * k) 3 else (Int32.ofInt 2) * h.1 (12 + 24 * t + 4 * k) 3))), some (.int (Int32.ofNat (k + 1)))], [], h, fl_tot) r
      rw [if_pos c]
      exact e
    · refine xab_r (d := d) S ht f (k + 1) (by omega) (by omega) ?_
      show Ev d 102 (4, [some (.ref (4 + 24 * t)), some (.int (pr (fun k => h.1 (12 + 24 * t + 4 * k) 5) (fun k => h.1 (12 + 24 * t + 4 * k) 3) k + (if (h.1 (12 + 24 * t + 4 * k) 5).toInt = 0 then h.1 (12 + 24 * t + 4 * k) 3 else (Int32.ofInt 2) * h.1 (12 + 24 * t + 4 * k) 3))), some (.int (Int32.ofNat (k + 1)))], [], h, fl_tot) r
      rw [if_neg c]
      exact e
theorem za_r {d t : Nat} {h : Hp} {w : Int32} {r : Option Value × Hp × Nat} (S : SH h.2) (ht : t < 6) : ∀ (f k : Nat), k ≤ 4 → 4 - k < f → Ev d 191 (111, [some (.ref 223), some (.int (Int32.ofNat t)), some (.int w), some (.int (pr (fun k => h.1 267 (4 * t + k)) (fun k => h.1 266 (4 * t + k)) k)), some (.int (Int32.ofNat k))], [], h, fl_tot) r → r = (some (.int (pr (fun k => h.1 267 (4 * t + k)) (fun k => h.1 266 (4 * t + k)) 4)), h, fl_tot)
  | 0, k, hk, hf, e => by omega
  | f + 1, k, hk, hf, e => by
    have ix : ((Int32.ofInt 4) * Int32.ofNat t + Int32.ofNat k).toNatClampNeg = 4 * t + k := i4 (by omega) (by omega)
    have E := za_l S e
    rw [i32n (n := k) (by omega), ix, o32 (by omega)] at E
    rcases E with ⟨z, w⟩ | ⟨z, c, e⟩ | ⟨z, c, e⟩
    · have k4 : k = 4 := by omega
      subst k4
      exact w
    · refine za_r (d := d) (w := w) S ht f (k + 1) (by omega) (by omega) ?_
      show Ev d 191 (111, [some (.ref 223), some (.int (Int32.ofNat t)), some (.int w), some (.int (pr (fun k => h.1 267 (4 * t + k)) (fun k => h.1 266 (4 * t + k)) k + (if (h.1 267 (4 * t + k)).toInt = 0 then h.1 266 (4 * t + k) else (Int32.ofInt 2) * h.1 266 (4 * t + k)))), some (.int (Int32.ofNat (k + 1)))], [], h, fl_tot) r
      rw [if_pos c]
      exact e
    · refine za_r (d := d) (w := w) S ht f (k + 1) (by omega) (by omega) ?_
      show Ev d 191 (111, [some (.ref 223), some (.int (Int32.ofNat t)), some (.int w), some (.int (pr (fun k => h.1 267 (4 * t + k)) (fun k => h.1 266 (4 * t + k)) k + (if (h.1 267 (4 * t + k)).toInt = 0 then h.1 266 (4 * t + k) else (Int32.ofInt 2) * h.1 266 (4 * t + k)))), some (.int (Int32.ofNat (k + 1)))], [], h, fl_tot) r
      rw [if_neg c]
      exact e
/-- the kind that about's number asks for -/
def abK (b : Int) : Int := if b ≤ 2 then 0 else if b = 3 then 2 else 5
theorem abK_le {b : Int} (h : b ≤ 2) : abK b = 0 := if_pos h
theorem abK_3 {b : Int} (h : b = 3) : abK b = 2 := by subst h; rfl
theorem abK_5 {b : Int} (h : 4 ≤ b) : abK b = 5 := by
  unfold abK
  rw [if_neg (by omega), if_neg (by omega)]
/-- about's answer, of what the reference has -/
def abV (h : Hp) (T : Nat) (b : Int32) : Int32 :=
  if (h.1 224 T).toInt ≠ abK b.toInt then Int32.ofInt (-2)
  else if (h.1 223 13).toInt = 0 then Int32.ofInt (-3)
  else if b.toInt = 0 then h.1 269 T else if b.toInt = 1 then h.1 270 T else if b.toInt = 2 then pr (fun k => h.1 267 (4 * T + k)) (fun k => h.1 266 (4 * T + k)) 4
  else if b.toInt = 3 then (if (h.1 262 T).toInt ≠ 0 then Int32.ofInt 1 else Int32.ofInt 0) else if b.toInt = 4 then h.1 271 T else h.1 272 T
def abW (h : Hp) (a b : Int32) : Int32 := if 0 ≤ a.toInt ∧ a.toInt < (h.1 223 0).toInt ∧ 0 ≤ b.toInt ∧ b.toInt ≤ 5 then abV h a.toNatClampNeg b else Int32.ofInt (-2)
theorem z_about {d : Nat} {h : Hp} {a b : Int32} {r : Option Value × Hp × Nat} (hT : TInv h) (S : SH h.2) (e : Ev d 191 (0, [some (.ref 223), some (.int a), some (.int b), none, none], [], h, fl_tot) r) : r = (some (.int (abW h a b)), h, fl_tot) := by
  have Q6 := qt_i hT
  have sb := subI0 (x := h.1 223 0) (by omega)
  have E := za_0 S e
  rw [sb, i32_0, show (Int32.ofInt 5).toInt = 5 by decide] at E
  by_cases v : 0 ≤ a.toInt ∧ a.toInt < (h.1 223 0).toInt ∧ 0 ≤ b.toInt ∧ b.toInt ≤ 5
  · obtain ⟨T, eT⟩ : ∃ T : Nat, T = a.toNatClampNeg := ⟨_, rfl⟩
    have ea : Int32.ofNat T = a := by rw [eT]; exact i32_of v.1
    have t6 : T < 6 := by
      have : (T : Int) = a.toInt := by rw [← ea, i32n (by rw [eT]; show a.toInt.toNat < _; omega)]
      omega
    rw [← eT] at E
    unfold abW
    rw [if_pos v, ← eT]
    unfold abV
    rcases E with ⟨p0, p1, p2, p3, p4, p5, p6, p7, p8, p9, p10, pw⟩ | ⟨p0, p1, p2, p3, p4, p5, p6, p7, p8, p9, p10, pw⟩ | ⟨p0, p1, p2, p3, p4, p5, pw⟩ | ⟨p0, p1, p2, p3, p4, pw⟩ | ⟨p0, p1, p2, p3, p4, p5, p6, p7, p8, p9, p10, pw⟩ | ⟨p0, p1, p2, p3, p4, p5, p6, p7, p8, p9, p10, pw⟩ | ⟨p0, p1, p2, p3, p4, p5, pw⟩ | ⟨p0, p1, p2, p3, p4, pw⟩ | ⟨p0, p1, p2, p3, p4, p5, pw⟩ | ⟨p0, p1, p2, p3, p4, p5, p6, pw⟩ | ⟨p0, p1, p2, p3, p4, p5, p6, p7, e⟩ | ⟨p0, p1, p2, p3, p4, p5, p6, p7, p8, p9, pw⟩ | ⟨p0, p1, p2, p3, p4, pw⟩ | ⟨p0, p1, p2, p3, pw⟩ | ⟨p0, p1, pw⟩ | ⟨p0, pw⟩
    all_goals first
      | (exfalso; omega)
      | (rw [pw]
         first | rw [abK_le (by omega)] | rw [abK_3 (by omega)] | rw [abK_5 (by omega)]
         (repeat (first | rw [if_pos (by omega)] | rw [if_neg (by omega)]))
         done)
      | (first | rw [abK_le (by omega)] | rw [abK_3 (by omega)] | rw [abK_5 (by omega)]
         (repeat (first | rw [if_pos (by omega)] | rw [if_neg (by omega)]))
         rw [← ea] at e
         exact za_r S t6 5 0 (by omega) (by omega) e)
  · unfold abW
    rw [if_neg v]
    rcases E with ⟨p0, p1, p2, p3, p4, p5, p6, p7, p8, p9, p10, pw⟩ | ⟨p0, p1, p2, p3, p4, p5, p6, p7, p8, p9, p10, pw⟩ | ⟨p0, p1, p2, p3, p4, p5, pw⟩ | ⟨p0, p1, p2, p3, p4, pw⟩ | ⟨p0, p1, p2, p3, p4, p5, p6, p7, p8, p9, p10, pw⟩ | ⟨p0, p1, p2, p3, p4, p5, p6, p7, p8, p9, p10, pw⟩ | ⟨p0, p1, p2, p3, p4, p5, pw⟩ | ⟨p0, p1, p2, p3, p4, pw⟩ | ⟨p0, p1, p2, p3, p4, p5, pw⟩ | ⟨p0, p1, p2, p3, p4, p5, p6, pw⟩ | ⟨p0, p1, p2, p3, p4, p5, p6, p7, e⟩ | ⟨p0, p1, p2, p3, p4, p5, p6, p7, p8, p9, pw⟩ | ⟨p0, p1, p2, p3, p4, pw⟩ | ⟨p0, p1, p2, p3, pw⟩ | ⟨p0, p1, pw⟩ | ⟨p0, pw⟩
    all_goals first | exact pw | (exfalso; omega)
theorem cmp_about {h h1 h2 : Hp} {d d2 : Nat} {a b : Int32} {w v : Value} (U : LI h) (O : RO h) (Q : RQ2 h) (hT : TInv h) (X : Ev d 99 (0, [some (.ref 0), some (.int a), some (.int b), none, none], [], h, fl_tot) (some w, h1, fl_tot)) (M : Ev d2 191 (0, [some (.ref 223), some (.int a), some (.int b), none, none], [], h1, fl_tot) (some v, h2, fl_tot)) : w = v := by
  have S := U.1.1
  have Q6 := qt_i hT
  have c12 : h.1 1 2 = h.1 223 0 := U.1.2.1.1
  have rn : h.1 0 5 = h.1 223 13 := O.1
  have key : ∀ {x : Int32}, (some w, h1, fl_tot) = (some (Value.int x), h, fl_tot) → x = abW h a b → w = v := fun {x} p q => by
    obtain ⟨p1, p2, -⟩ := tri p
    subst p2
    obtain ⟨q1, -, -⟩ := tri (z_about hT S M)
    cases p1
    cases q1
    rw [q]
  have E := ya_0 S X
  rw [c12] at E
  by_cases v0 : 0 ≤ a.toInt ∧ a.toInt < (h.1 223 0).toInt ∧ 0 ≤ b.toInt ∧ b.toInt ≤ 5
  · obtain ⟨T, eT⟩ : ∃ T : Nat, T = a.toNatClampNeg := ⟨_, rfl⟩
    have ea : Int32.ofNat T = a := by rw [eT]; exact i32_of v0.1
    have eTa : (T : Int) = a.toInt := by rw [← ea, i32n (by rw [eT]; show a.toInt.toNat < _; omega)]
    have t6 : T < 6 := by omega
    have e : Ev d 99 (32, [some (.ref 0), some (.int a), some (.int b), none, none], [.ref (4 + 24 * T)], h, fl_tot) (some w, h1, fl_tot) := by
      rw [eT]
      rcases E with ⟨-, z, -⟩ | ⟨-, -, -, -, -, e⟩ | ⟨-, -, z, -⟩ | ⟨z, -⟩
      · omega
      · exact e
      · omega
      · omega
    have kd : h.1 (4 + 24 * T) 6 = h.1 224 T := (U.1.2.2.1 T t6 (by rw [c12]; omega)).1
    have aw : abW h a b = abV h T b := by unfold abW; rw [if_pos v0, ← eT]
    have E := ya_1 S t6 e
    rw [kd, rn] at E
    -- what the run left
    have RS : (h.1 223 13).toInt ≠ 0 → ((h.1 224 T).toInt = 0 → sum4 h T 7 = h.1 269 T ∧ sum4 h T 8 = h.1 270 T ∧ ∀ k, k < 4 → h.1 (12 + 24 * T + 4 * k) 5 = h.1 267 (4 * T + k) ∧ h.1 (12 + 24 * T + 4 * k) 3 = h.1 266 (4 * T + k)) ∧ ((h.1 224 T).toInt = 2 → ((h.1 (5 + 24 * T) 4).toInt > 0 ↔ (h.1 262 T).toInt ≠ 0)) ∧ ((h.1 224 T).toInt = 5 → h.1 (4 + 24 * T) 10 = h.1 271 T ∧ h.1 (4 + 24 * T) 11 = h.1 272 T) := fun z => by
      obtain ⟨g, st, G, R, -⟩ := Q z
      have M0 := R.1.2.1
      have e0 : qt g = qt h := by unfold qt; rw [M0.2.1]
      have tq : T < qt g := by rw [e0]; omega
      have e24 : g.1 224 T = h.1 224 T := (M0.2.2.2 224 T (by decide) (by decide)).symm
      obtain ⟨⟨t1, t2, t3, t4⟩, -⟩ := R.2.1.1 T tq
      rw [e24] at t2 t4
      refine ⟨fun k => ?_, fun k => (t2 (Or.inr k)).2.2.2, fun k => (t4 k).2⟩
      obtain ⟨s1, s2, s3⟩ := R.2.1.2.2 T tq (by rw [e24]; exact k)
      refine ⟨s2, s3, fun k hk => ?_⟩
      obtain ⟨a', b', n, rm, -, -, -, ⟨g1, g2, g3⟩, -⟩ := s1 k hk
      exact ⟨g3, g1.trans g2.symm⟩
    rcases E with ⟨x0, x1, x2, x3, x4, x5, x6, x7, x8, xw⟩ | ⟨x0, x1, x2, x3, x4, x5, x6, x7, x8, xw⟩ | ⟨x0, x1, x2, x3, xw⟩ | ⟨x0, x1, x2, xw⟩ | ⟨x0, x1, x2, x3, x4, x5, x6, x7, x8, xw⟩ | ⟨x0, x1, x2, x3, x4, x5, x6, x7, x8, xw⟩ | ⟨x0, x1, x2, x3, xw⟩ | ⟨x0, x1, x2, xw⟩ | ⟨x0, x1, x2, x3, e⟩ | ⟨x0, x1, x2, x3, x4, e⟩ | ⟨x0, x1, x2, x3, x4, x5, e⟩ | ⟨x0, x1, x2, x3, x4, x5, x6, x7, xw⟩ | ⟨x0, x1, x2, xw⟩ | ⟨x0, x1, xw⟩
    all_goals first | (exfalso; omega) | skip
    all_goals first
      | (refine key xw ?_
         rw [aw]
         unfold abV
         first | rw [abK_le (by omega)] | rw [abK_3 (by omega)] | rw [abK_5 (by omega)]
         first
           | ((repeat (first | rw [if_pos (by omega)] | rw [if_neg (by omega)]))
              done)
           | (have R := (RS (by omega)).2.1 (by omega)
              (repeat (first | rw [if_pos (by omega)] | rw [if_neg (by omega)]))
              done)
           | (have R := RS (by omega)
              (repeat (first | rw [if_pos (by omega)] | rw [if_neg (by omega)]))
              first | exact (R.2.2 (by omega)).1 | exact (R.2.2 (by omega)).2))
      | skip
    · have R := (RS (by omega)).1 (by omega)
      obtain ⟨d4, v4, h4, n4, z4, ec4, e⟩ := b_call (m2 := 100) (k := 0) (nL := 3) (as := [.ref (4 + 24 * T)]) (rest := []) (L := [some (.ref (4 + 24 * T)), none, none]) e (show fl_code 99 113 = some (18, [((100 : Nat) : Int), ((0 : Nat) : Int)], 116) by decide +kernel) rfl (by decide +kernel) rfl rfl rfl
      obtain ⟨w1, w2, w3⟩ := tri (xab_g S t6 5 0 (by omega) (by omega) (ya_g0 S t6 ec4))
      rw [w1, w2, w3] at e
      have e : Ev d 99 (116, [some (.ref 0), some (.int a), some (.int b), some (.ref (4 + 24 * T)), some (.int (Int32.ofInt 0))], [.int (sum4 h T 7)], h, fl_tot) (some w, h1, fl_tot) := e
      refine key (ya_r116 S e) ?_
      rw [aw, R.1]
      unfold abV
      rw [abK_le (by omega)]
      repeat (first | rw [if_pos (by omega)] | rw [if_neg (by omega)])
    · have R := (RS (by omega)).1 (by omega)
      obtain ⟨d4, v4, h4, n4, z4, ec4, e⟩ := b_call (m2 := 101) (k := 0) (nL := 3) (as := [.ref (4 + 24 * T)]) (rest := []) (L := [some (.ref (4 + 24 * T)), none, none]) e (show fl_code 99 118 = some (18, [((101 : Nat) : Int), ((0 : Nat) : Int)], 121) by decide +kernel) rfl (by decide +kernel) rfl rfl rfl
      obtain ⟨w1, w2, w3⟩ := tri (xab_m S t6 5 0 (by omega) (by omega) (ya_m0 S t6 ec4))
      rw [w1, w2, w3] at e
      have e : Ev d 99 (121, [some (.ref 0), some (.int a), some (.int b), some (.ref (4 + 24 * T)), some (.int (Int32.ofInt 0))], [.int (sum4 h T 8)], h, fl_tot) (some w, h1, fl_tot) := e
      refine key (ya_r121 S e) ?_
      rw [aw, R.2.1]
      unfold abV
      rw [abK_le (by omega)]
      repeat (first | rw [if_pos (by omega)] | rw [if_neg (by omega)])
    · have R := (RS (by omega)).1 (by omega)
      obtain ⟨d4, v4, h4, n4, z4, ec4, e⟩ := b_call (m2 := 102) (k := 0) (nL := 3) (as := [.ref (4 + 24 * T)]) (rest := []) (L := [some (.ref (4 + 24 * T)), none, none]) e (show fl_code 99 123 = some (18, [((102 : Nat) : Int), ((0 : Nat) : Int)], 126) by decide +kernel) rfl (by decide +kernel) rfl rfl rfl
      obtain ⟨w1, w2, w3⟩ := tri (xab_r S t6 5 0 (by omega) (by omega) (ya_r0 S t6 ec4))
      rw [w1, w2, w3] at e
      have e : Ev d 99 (126, [some (.ref 0), some (.int a), some (.int b), some (.ref (4 + 24 * T)), some (.int (Int32.ofInt 0))], [.int (pr (fun k => h.1 (12 + 24 * T + 4 * k) 5) (fun k => h.1 (12 + 24 * T + 4 * k) 3) 4)], h, fl_tot) (some w, h1, fl_tot) := e
      refine key (ya_r126 S e) ?_
      rw [aw, pr_eq 4 (fun k hk => R.2.2 k hk)]
      unfold abV
      rw [abK_le (by omega)]
      repeat (first | rw [if_pos (by omega)] | rw [if_neg (by omega)])
  · rcases E with ⟨-, -, xw⟩ | ⟨z, z2, z3, -⟩ | ⟨-, -, -, xw⟩ | ⟨-, xw⟩
    · exact key xw (by unfold abW; rw [if_neg v0])
    · omega
    · exact key xw (by unfold abW; rw [if_neg v0])
    · exact key xw (by unfold abW; rw [if_neg v0])
