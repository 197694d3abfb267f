
set_option maxRecDepth 20000
/-! THE REFERENCE GOES THROUGH THE KEYS -/
theorem pm1 {m : Nat} (h : m < 2147483646) : Int32.ofNat (m + 1) + Int32.ofInt (-1) = Int32.ofNat m := by
  rw [← o32 (n := m) (by omega), Int32.add_assoc, show Int32.ofInt 1 + Int32.ofInt (-1) = 0 from by decide, Int32.add_zero]
theorem sN {a b : Nat} (h : b ≤ a) (ha : a < 2147483647) : Int32.ofNat a - Int32.ofNat b = Int32.ofNat (a - b) := by
  refine Int32.toInt_inj.mp ?_
  rw [Int32.toInt_sub, i32n (n := a) (by omega), i32n (n := b) (by omega), i32n (n := a - b) (by omega), Int.bmod_eq_of_le (by omega) (by omega)]
  omega
/-- the first card of what is left of a row -/
theorem nx_first {hm : Hp} {t s : Nat} {b : Nat → Int32} {c v : Int32} {fr ro bf : Int} {P : Nat → Prop} {l : List Nat} (R : RLl b c P (kS hm t s) l) (B : ∀ q, q < 8 → (P q ↔ inP hm t s fr ro q ∧ kS hm t s q < bf)) (p : nxV hm t s fr ro bf 8 v) : (l = [] ∧ v = Int32.ofInt (-1)) ∨ ∃ q l', l = q :: l' ∧ v = Int32.ofNat (4 * q + s) := by
  cases l with
  | nil =>
    rcases p with ⟨p1, p2⟩ | ⟨q, p1, p2, p3, p4⟩
    · exact Or.inl ⟨rfl, p1⟩
    · exact absurd ((B q p1).mpr p3) (R.nil.2 q p1)
  | cons q l =>
    obtain ⟨u1, u2, u3, u4, u5⟩ := R.un
    have q1 := (B q u2).mp u3
    rcases p with ⟨p1, p2⟩ | ⟨q', p1, p2, p3, p4⟩
    · exact absurd q1 (p2 q u2 u2)
    · by_cases y : q' = q
      · rw [y] at p2
        exact Or.inr ⟨q, l, rfl, p2⟩
      · have a := u4 q' p1 ((B q' p1).mpr p3) y
        have b := p4 q u2 u2 q1.1 q1.2
        omega
/-- within a row -/
theorem zr_in {d t s ro : Nat} {hm : Hp} {b : Nat → Int32} {i0 n gr rr fr : Int32} {r : Option Value × Hp × Nat} (S : SH hm.2) (t6 : t < 6) (s4 : s < 4) (ro8 : ro < 8) (hr : (fr.toInt = 0 → rr = Int32.ofNat ro) ∧ (fr.toInt ≠ 0 → rr - n = Int32.ofNat ro)) : ∀ (l : List Nat) (le : Nat) {c ky : Int32} {bf : Int} {P : Nat → Prop}, RLl b c P (kS hm t s) l → (∀ q, q < 8 → (P q ↔ inP hm t s fr.toInt ro q ∧ kS hm t s q < bf)) → ((l = [] ∧ ky = Int32.ofInt (-1)) ∨ ∃ q l', l = q :: l' ∧ ky = Int32.ofNat (4 * q + s)) → le < 1000 →
    Ev d 189 (104, [some (.ref 223), some (.int (Int32.ofNat t)), some (.int i0), some (.int (Int32.ofNat le)), some (.int (Int32.ofNat s)), some (.int n), some (.int gr), some (.int rr), some (.int fr), some (.int ky)], [], hm, fl_tot) r →
    (le < l.length ∧ ∃ q, nthL l le = some q ∧ r = (some (.int (Int32.ofNat (4 * q + s))), hm, fl_tot)) ∨ (l.length ≤ le ∧ ∃ o8 o9, Ev d 189 (40, [some (.ref 223), some (.int (Int32.ofNat t)), some (.int i0), some (.int (Int32.ofNat (le - l.length))), some (.int (Int32.ofNat s)), some (.int n), some (.int gr), some (.int (rr + Int32.ofInt 1)), o8, o9], [], hm, fl_tot) r)
  | [], le, c, ky, bf, P, R, B, hk, h1, e => by
    have hk : ky = Int32.ofInt (-1) := by
      rcases hk with z | ⟨q, l', z, -⟩
      · exact z.2
      · cases z
    rcases zl_mk S e with ⟨-, e⟩ | ⟨z, -⟩ | ⟨z, -⟩ | ⟨z, -⟩
    · exact Or.inr ⟨Nat.zero_le le, _, _, e⟩
    · exact absurd (by rw [hk]; exact m1i) z
    · exact absurd (by rw [hk]; exact m1i) z
    · exact absurd (by rw [hk]; exact m1i) z
  | q :: l, le, c, ky, bf, P, R, B, hk, h1, e => by
    obtain ⟨u1, u2, u3, u4, u5⟩ := R.un
    have hk : ky = Int32.ofNat (4 * q + s) := by
      rcases hk with z | ⟨q', l', z, z2⟩
      · cases z.1
      · obtain ⟨z3, z4⟩ := List.cons.inj z
        rw [z3]; exact z2
    subst hk
    have ix : ((Int32.ofInt 32) * Int32.ofNat t + Int32.ofNat (4 * q + s)).toNatClampNeg = 32 * t + (4 * q + s) := i32k (by omega) (by omega)
    have E := zl_mk S e
    rw [ix, i32n (n := 4 * q + s) (by omega), i32n (n := le) (by omega)] at E
    have B' : ∀ x, x < 8 → ((P x ∧ x ≠ q) ↔ inP hm t s fr.toInt ro x ∧ kS hm t s x < kS hm t s q) := fun x hx => by
      constructor
      · intro z
        exact ⟨((B x hx).mp z.1).1, u4 x hx z.1 z.2⟩
      · intro z
        have z2 := z.2
        have bq := ((B q u2).mp u3).2
        refine ⟨(B x hx).mpr ⟨z.1, by omega⟩, fun y => ?_⟩
        rw [y] at z2
        omega
    have go : ∀ {le' : Nat}, le = le' + 1 → Ev d 189 (153, [some (.ref 223), some (.int (Int32.ofNat t)), some (.int i0), some (.int (Int32.ofNat le + Int32.ofInt (-1))), some (.int (Int32.ofNat s)), some (.int n), some (.int gr), some (.int rr), some (.int fr), some (.int (Int32.ofNat (4 * q + s)))], [.int (hm.1 259 (32 * t + (4 * q + s))), .int (Int32.ofNat ro), .int fr, .int (Int32.ofNat s), .int (Int32.ofNat t), .ref 223], hm, fl_tot) r →
        (le < (q :: l).length ∧ ∃ q', nthL (q :: l) le = some q' ∧ r = (some (.int (Int32.ofNat (4 * q' + s))), hm, fl_tot)) ∨ ((q :: l).length ≤ le ∧ ∃ o8 o9, Ev d 189 (40, [some (.ref 223), some (.int (Int32.ofNat t)), some (.int i0), some (.int (Int32.ofNat (le - (q :: l).length))), some (.int (Int32.ofNat s)), some (.int n), some (.int gr), some (.int (rr + Int32.ofInt 1)), o8, o9], [], hm, fl_tot) r) := fun {le'} el e => by
      subst el
      rw [pm1 (by omega)] at e
      obtain ⟨d3, v3, h3, n3, z3, ec3, e⟩ := b_call (m2 := 165) (k := 5) (nL := 10) (as := [.ref 223, .int (Int32.ofNat t), .int (Int32.ofNat s), .int fr, .int (Int32.ofNat ro), .int (hm.1 259 (32 * t + (4 * q + s)))]) (rest := []) (L := [some (.ref 223), some (.int (Int32.ofNat t)), some (.int (Int32.ofNat s)), some (.int fr), some (.int (Int32.ofNat ro)), some (.int (hm.1 259 (32 * t + (4 * q + s)))), none, none, none, none]) e (show fl_code 189 153 = some (18, [((165 : Nat) : Int), ((5 : Nat) : Int)], 156) by decide +kernel) rfl (by decide +kernel) rfl rfl rfl
      obtain ⟨v, w3, p⟩ := z_nx S t6 s4 ec3
      obtain ⟨w1, w2, w3⟩ := tri w3
      rw [w1, w2, w3] at e
      have e : Ev d 189 (156, [some (.ref 223), some (.int (Int32.ofNat t)), some (.int i0), some (.int (Int32.ofNat le')), some (.int (Int32.ofNat s)), some (.int n), some (.int gr), some (.int rr), some (.int fr), some (.int (Int32.ofNat (4 * q + s)))], [.int v], hm, fl_tot) r := e
      have e := zl_m2 S e
      rw [i32n (n := ro) (by omega)] at p
      have K := nx_first u5 B' p
      rw [List.length_cons]
      rcases zr_in S t6 s4 ro8 hr l le' u5 B' K (by omega) e with ⟨z1, q', z2, z3⟩ | ⟨z1, o8, o9, z2⟩
      · exact Or.inl ⟨by omega, q', z2, z3⟩
      · exact Or.inr ⟨by omega, o8, o9, by rw [show le' + 1 - (l.length + 1) = le' - l.length by omega]; exact z2⟩
    rcases E with ⟨z, -⟩ | ⟨-, z1, z2, e⟩ | ⟨-, z1, z2, e⟩ | ⟨-, z1, w⟩
    · exfalso; omega
    · rw [hr.1 z2] at e
      exact go (le' := le - 1) (by omega) (by rw [hr.1 z2]; exact e)
    · rw [hr.2 z2] at e
      exact go (le' := le - 1) (by omega) e
    · have l0 : le = 0 := by omega
      subst l0
      exact Or.inl ⟨by rw [List.length_cons]; omega, q, rfl, w⟩
/-- through m rows, the old ones (fr 0) or the new ones (fr 1) -/
theorem zr_part {d t s nn base : Nat} {hm : Hp} {b hd : Nat → Int32} {i0 gr fr : Int32} {r : Option Value × Hp × Nat} (S : SH hm.2) (t6 : t < 6) (s4 : s < 4) (n3 : nn = 1 ∨ nn = 2 ∨ nn = 4) (hg : gr.toInt ≠ 0 → nn ≤ 2) (B42 : ∀ q, q < 8 → kH hm t s q ≠ 0 → kS hm t s q ≤ (hm.1 223 42).toInt) (b42 : 0 ≤ (hm.1 223 42).toInt ∧ (hm.1 223 42).toInt ≤ 95000) (hf : (fr = Int32.ofInt 0 ∧ base = 0) ∨ (fr = Int32.ofInt 1 ∧ base = nn ∧ gr.toInt ≠ 0)) : ∀ (m w0 le : Nat) {Q : List Nat} {o8 o9 : Option Value}, RWL b hd (fun r : Nat => inP hm t s fr.toInt r) (kS hm t s) w0 m Q → (base = 0 → w0 + m ≤ nn) → (base ≠ 0 → w0 + m ≤ 2 * nn) → le < 1000 →
    Ev d 189 (40, [some (.ref 223), some (.int (Int32.ofNat t)), some (.int i0), some (.int (Int32.ofNat le)), some (.int (Int32.ofNat s)), some (.int (Int32.ofNat nn)), some (.int gr), some (.int (Int32.ofNat (base + w0))), o8, o9], [], hm, fl_tot) r →
    (le < Q.length ∧ ∃ q, nthL Q le = some q ∧ r = (some (.int (Int32.ofNat (4 * q + s))), hm, fl_tot)) ∨ (Q.length ≤ le ∧ ∃ o8 o9, Ev d 189 (40, [some (.ref 223), some (.int (Int32.ofNat t)), some (.int i0), some (.int (Int32.ofNat (le - Q.length))), some (.int (Int32.ofNat s)), some (.int (Int32.ofNat nn)), some (.int gr), some (.int (Int32.ofNat (base + w0 + m))), o8, o9], [], hm, fl_tot) r)
  | 0, w0, le, Q, o8, o9, R, h0, h1, hl, e => by
    have R : Q = [] := R
    subst R
    exact Or.inr ⟨Nat.zero_le le, o8, o9, e⟩
  | m + 1, w0, le, Q, o8, o9, R, h0, h1, hl, e => by
    obtain ⟨l, Q', R1, R2, rfl⟩ := R
    have tn : (Int32.ofInt 3) * Int32.ofNat nn = Int32.ofNat (3 * nn) := by rcases n3 with rfl | rfl | rfl <;> decide
    have E := zl_mr S e
    rw [tn, i32n (n := base + w0) (by rcases hf with z | z <;> omega), i32n (n := nn) (by omega), i32n (n := 3 * nn) (by omega)] at E
    have s1 : (hm.1 223 42 + Int32.ofInt 1).toInt = (hm.1 223 42).toInt + 1 := addI1 (by omega)
    have w8 : w0 < 8 := by rcases hf with z | ⟨-, z1, z2⟩ <;> omega
    have Z : ∃ o9, Ev d 189 (99, [some (.ref 223), some (.int (Int32.ofNat t)), some (.int i0), some (.int (Int32.ofNat le)), some (.int (Int32.ofNat s)), some (.int (Int32.ofNat nn)), some (.int gr), some (.int (Int32.ofNat (base + w0))), some (.int fr), o9], [.int (Int32.ofNat w0), .int fr, .int (Int32.ofNat s), .int (Int32.ofNat t), .ref 223], hm, fl_tot) r := by
      rcases hf with ⟨f1, f2⟩ | ⟨f1, f2, f3⟩
      · subst f1 f2
        have h0 := h0 rfl
        rcases E with ⟨-, z, -⟩ | ⟨-, -, -, e⟩ | ⟨-, z, -⟩ | ⟨-, -, -, -, e⟩ | ⟨-, -, -, z, -⟩
        · exfalso; omega
        · rw [Nat.zero_add] at e ⊢; exact ⟨_, e⟩
        · exfalso; omega
        · rw [Nat.zero_add] at e ⊢; exact ⟨_, e⟩
        · exfalso; omega
      · subst f1
        have h1 := h1 (by omega)
        rcases E with ⟨z, -⟩ | ⟨z, -⟩ | ⟨-, z, -⟩ | ⟨-, -, -, z, -⟩ | ⟨-, -, -, -, e⟩
        · exact absurd z f3
        · exact absurd z f3
        · exfalso; omega
        · exfalso; omega
        · rw [sN (by omega) (by omega), show base + w0 - nn = w0 by omega] at e
          exact ⟨_, e⟩
    obtain ⟨o9', e⟩ := Z
    obtain ⟨d3, v3, h3, n3', z3, ec3, e⟩ := b_call (m2 := 164) (k := 4) (nL := 5) (as := [.ref 223, .int (Int32.ofNat t), .int (Int32.ofNat s), .int fr, .int (Int32.ofNat w0)]) (rest := []) (L := [some (.ref 223), some (.int (Int32.ofNat t)), some (.int (Int32.ofNat s)), some (.int fr), some (.int (Int32.ofNat w0))]) e (show fl_code 189 99 = some (18, [((164 : Nat) : Int), ((4 : Nat) : Int)], 102) by decide +kernel) rfl (by decide +kernel) rfl rfl rfl
    obtain ⟨v, w3, p⟩ := z_hd S t6 s4 ec3
    obtain ⟨w1, w2, w3⟩ := tri w3
    rw [w1, w2, w3] at e
    have e : Ev d 189 (102, [some (.ref 223), some (.int (Int32.ofNat t)), some (.int i0), some (.int (Int32.ofNat le)), some (.int (Int32.ofNat s)), some (.int (Int32.ofNat nn)), some (.int gr), some (.int (Int32.ofNat (base + w0))), some (.int fr), o9'], [.int v], hm, fl_tot) r := e
    have e := zl_m1 S e
    rw [i32n (n := w0) (by omega), s1] at p
    have Bx : ∀ q, q < 8 → (inP hm t s fr.toInt w0 q ↔ inP hm t s fr.toInt w0 q ∧ kS hm t s q < (hm.1 223 42).toInt + 1) := fun q hq => by
      constructor
      · intro z
        have := B42 q hq z.1
        exact ⟨z, by omega⟩
      · intro z
        exact z.1
    have K := nx_first R1 Bx p
    have hr : (fr.toInt = 0 → Int32.ofNat (base + w0) = Int32.ofNat w0) ∧ (fr.toInt ≠ 0 → Int32.ofNat (base + w0) - Int32.ofNat nn = Int32.ofNat w0) := by
      rcases hf with ⟨f1, f2⟩ | ⟨f1, f2, f3⟩
      · subst f2
        exact ⟨fun _ => by rw [Nat.zero_add], fun z => absurd (by rw [f1]; exact i32_0) z⟩
      · refine ⟨fun z => ?_, fun z => ?_⟩
        · rw [f1, i32_1] at z
          exact absurd z (by decide)
        · rw [sN (by omega) (by omega), show base + w0 - nn = w0 by omega]
    rw [List.length_append]
    rcases zr_in S t6 s4 w8 hr l le R1 Bx K hl e with ⟨z1, q', z2, z3⟩ | ⟨z1, p8, p9, e⟩
    · exact Or.inl ⟨by omega, q', nthL_lo z2 z1, z3⟩
    · rw [o32 (n := base + w0) (by rcases hf with z | z <;> omega)] at e
      rcases zr_part S t6 s4 n3 hg B42 b42 hf m (w0 + 1) (le - l.length) R2 (fun z => by have := h0 z; omega) (fun z => by have := h1 z; omega) (by omega) e with ⟨y1, q', y2, y3⟩ | ⟨y1, p8, p9, y2⟩
      · exact Or.inl ⟨by omega, q', nthL_hi y2 z1, y3⟩
      · exact Or.inr ⟨by omega, p8, p9, by rw [show le - (l.length + Q'.length) = le - l.length - Q'.length by omega, show base + w0 + (m + 1) = base + (w0 + 1) + m by omega]; exact y2⟩
/-- through a stripe -/
theorem zr_st {d t s le : Nat} {h hm : Hp} {Q : List Nat} {i0 : Int32} {o5 o6 o7 o8 o9 : Option Value} {r : Option Value × Hp × Nat} (S : SH hm.2) (t6 : t < 6) (s4 : s < 4) (A : STS h hm t s) (w : STL h hm t s Q) (B42 : ∀ q, q < 8 → kH hm t s q ≠ 0 → kS hm t s q ≤ (hm.1 223 42).toInt) (b42 : 0 ≤ (hm.1 223 42).toInt ∧ (hm.1 223 42).toInt ≤ 95000) (hl : le < 1000) (e : Ev d 189 (5, [some (.ref 223), some (.int (Int32.ofNat t)), some (.int i0), some (.int (Int32.ofNat le)), some (.int (Int32.ofNat s)), o5, o6, o7, o8, o9], [], hm, fl_tot) r) :
    (le < Q.length ∧ ∃ q, nthL Q le = some q ∧ r = (some (.int (Int32.ofNat (4 * q + s))), hm, fl_tot)) ∨ (Q.length ≤ le ∧ ∃ o5 o6 o7 o8 o9, Ev d 189 (5, [some (.ref 223), some (.int (Int32.ofNat t)), some (.int i0), some (.int (Int32.ofNat (le - Q.length))), some (.int (Int32.ofNat (s + 1))), o5, o6, o7, o8, o9], [], hm, fl_tot) r) := by
  obtain ⟨a, b, Qa, Qb, ab, sw, wa, wb, rfl⟩ := w
  obtain ⟨a', b', n, rm, -, -, -, ⟨g1, g2, g3⟩, g4, g5, g6, g7⟩ := A
  have E := zl_ms S e
  rw [k_t t6 s4, o32c (n := 4 * t + s) (by omega), i32n (n := s) (by omega), g2, zN] at E
  rcases E with ⟨z, -⟩ | ⟨-, e⟩
  · exfalso; omega
  · have wa' : RWL (h.1 (15 + 24 * t + 4 * s)) (h.1 a) (fun r : Nat => inP hm t s 0 r) (kS hm t s) 0 (n + (8 - n)) Qa := by rw [show n + (8 - n) = 8 by omega]; exact wa
    obtain ⟨Q1, Q2, c1, c2, rfl⟩ := wa'.split
    have e2 : Q2 = [] := c2.nil (fun r' q z1 z2 z3 z4 => by
      have z4 : inP hm t s 0 r' q := z4
      have y := (g7 q z3 z4.1).2.1 z4.2.1
      have y2 := z4.2.2
      have y3 := (n_q z3 g4).1
      omega)
    subst e2
    rw [List.append_nil, List.length_append]
    have c1' : RWL (h.1 (15 + 24 * t + 4 * s)) (h.1 a) (fun r : Nat => inP hm t s (Int32.ofInt 0).toInt r) (kS hm t s) 0 n Q1 := by rw [i32_0]; exact c1
    by_cases hg : (hm.1 267 (4 * t + s)).toInt = 0
    · have e3 : Qb = [] := wb.nil (fun r' q z1 z2 z3 z4 => by
        have z4 : inP hm t s 1 r' q := z4
        exact absurd hg ((g7 q z3 z4.1).2.2 z4.2.1).1)
      subst e3
      rw [List.append_nil, List.length_nil, Nat.add_zero]
      rcases zr_part (base := 0) (fr := Int32.ofInt 0) S t6 s4 g4 (fun z => absurd hg z) B42 b42 (Or.inl ⟨rfl, rfl⟩) n 0 le c1' (fun _ => by omega) (fun z => absurd rfl z) hl e with y | ⟨y1, p8, p9, y2⟩
      · exact Or.inl y
      · have E := zl_mr S y2
        rw [show (0 : Nat) + 0 + n = n by omega, o32 (n := s) (by omega)] at E
        rcases E with ⟨-, -, e⟩ | ⟨-, z, -⟩ | ⟨z, -⟩ | ⟨z, -⟩ | ⟨z, -⟩
        · exact Or.inr ⟨y1, _, _, _, _, _, e⟩
        · exact absurd z (Int.lt_irrefl _)
        · exact absurd hg z
        · exact absurd hg z
        · exact absurd hg z
    · have n2 := (g5 hg).1
      have wb' : RWL (h.1 (15 + 24 * t + 4 * s)) (h.1 b) (fun r : Nat => inP hm t s 1 r) (kS hm t s) 0 (2 * n + (8 - 2 * n)) Qb := by rw [show 2 * n + (8 - 2 * n) = 8 by omega]; exact wb
      obtain ⟨Q3, Q4, c3, c4, rfl⟩ := wb'.split
      have e4 : Q4 = [] := c4.nil (fun r' q z1 z2 z3 z4 => by
        have z4 : inP hm t s 1 r' q := z4
        have y := ((g7 q z3 z4.1).2.2 z4.2.1).2
        have y2 := z4.2.2
        have y3 : q % (2 * n) < 2 * n := Nat.mod_lt _ (by omega)
        omega)
      subst e4
      rw [List.append_nil]
      rcases zr_part (base := 0) (fr := Int32.ofInt 0) S t6 s4 g4 (fun _ => n2) B42 b42 (Or.inl ⟨rfl, rfl⟩) n 0 le c1' (fun _ => by omega) (fun z => absurd rfl z) hl e with ⟨y1, q', y2, y3⟩ | ⟨y1, p8, p9, y2⟩
      · exact Or.inl ⟨by omega, q', nthL_lo y2 y1, y3⟩
      · have c3' : RWL (h.1 (15 + 24 * t + 4 * s)) (h.1 b) (fun r : Nat => inP hm t s (Int32.ofInt 1).toInt r) (kS hm t s) 0 (2 * n) Q3 := by rw [i32_1]; exact c3
        rw [show (0 : Nat) + 0 + n = n by omega] at y2
        rcases zr_part (base := n) (fr := Int32.ofInt 1) S t6 s4 g4 (fun _ => n2) B42 b42 (Or.inr ⟨rfl, rfl, hg⟩) (2 * n) 0 (le - Q1.length) c3' (fun z => by omega) (fun _ => by omega) (by omega) y2 with ⟨x1, q', x2, x3⟩ | ⟨x1, p8, p9, x2⟩
        · exact Or.inl ⟨by omega, q', nthL_hi x2 y1, x3⟩
        · have E := zl_mr S x2
          have tn : (Int32.ofInt 3) * Int32.ofNat n = Int32.ofNat (3 * n) := by rcases g4 with rfl | rfl | rfl <;> decide
          rw [tn, show n + 0 + 2 * n = 3 * n by omega, o32 (n := s) (by omega), show le - Q1.length - Q3.length = le - (Q1.length + Q3.length) by omega] at E
          rcases E with ⟨z, -⟩ | ⟨z, -⟩ | ⟨-, -, e⟩ | ⟨-, z, -⟩ | ⟨-, z, -⟩
          · exact absurd z hg
          · exact absurd z hg
          · exact Or.inr ⟨by omega, _, _, _, _, _, e⟩
          · exact absurd z (Int.lt_irrefl _)
          · exact absurd z (Int.lt_irrefl _)
/-- through a tray -/
theorem zr_tr {d t : Nat} {h hm : Hp} {i0 : Int32} {r : Option Value × Hp × Nat} (S : SH hm.2) (t6 : t < 6) (A : ∀ s : Nat, s < 4 → STS h hm t s) (B42 : ∀ s q : Nat, s < 4 → q < 8 → kH hm t s q ≠ 0 → kS hm t s q ≤ (hm.1 223 42).toInt) (b42 : 0 ≤ (hm.1 223 42).toInt ∧ (hm.1 223 42).toInt ≤ 95000) : ∀ (n s le : Nat) {L : List Nat} {o5 o6 o7 o8 o9 : Option Value}, TRL h hm t s n L → s + n = 4 → le < 1000 → le < L.length → Ev d 189 (5, [some (.ref 223), some (.int (Int32.ofNat t)), some (.int i0), some (.int (Int32.ofNat le)), some (.int (Int32.ofNat s)), o5, o6, o7, o8, o9], [], hm, fl_tot) r → ∃ v, nthL L le = some v ∧ r = (some (.int (Int32.ofNat v)), hm, fl_tot)
  | 0, s, le, L, o5, o6, o7, o8, o9, w, hs, hl, hL, e => by
    have w : L = [] := w
    subst w
    exact absurd hL (Nat.not_lt_zero le)
  | n + 1, s, le, L, o5, o6, o7, o8, o9, w, hs, hl, hL, e => by
    obtain ⟨Q, L', w1, w2, rfl⟩ := w
    rw [List.length_append, List.length_map] at hL
    rcases zr_st S t6 (by omega) (A s (by omega)) w1 (fun q hq hz => B42 s q (by omega) hq hz) b42 hl e with ⟨y1, q', y2, y3⟩ | ⟨y1, p5, p6, p7, p8, p9, y2⟩
    · exact ⟨4 * q' + s, nthL_lo (nthL_map (fun q => 4 * q + s) Q le q' y2) (by rw [List.length_map]; exact y1), y3⟩
    · obtain ⟨v, x1, x2⟩ := zr_tr S t6 A B42 b42 n (s + 1) (le - Q.length) w2 (by omega) (by omega) (by omega) y2
      exact ⟨v, nthL_hi (by rw [List.length_map]; exact x1) (by rw [List.length_map]; exact y1), x2⟩
/-- keys by number -/
theorem zr_kh {d t : Nat} {hm : Hp} {i0 : Int32} {r : Option Value × Hp × Nat} (S : SH hm.2) (t6 : t < 6) : ∀ (n k le : Nat), k + n = 32 → le < 1000 → le < (HKL (fun j => decide ((hm.1 255 (32 * t + j)).toInt ≠ 0)) k n).length → Ev d 188 (43, [some (.ref 223), some (.int (Int32.ofNat t)), some (.int i0), some (.int (Int32.ofNat le)), some (.int (Int32.ofNat k))], [], hm, fl_tot) r → ∃ v, nthL (HKL (fun j => decide ((hm.1 255 (32 * t + j)).toInt ≠ 0)) k n) le = some v ∧ r = (some (.int (Int32.ofNat v)), hm, fl_tot)
  | 0, k, le, hk, hl, hL, e => absurd hL (Nat.not_lt_zero le)
  | n + 1, k, le, hk, hl, hL, e => by
    have ix : ((Int32.ofInt 32) * Int32.ofNat t + Int32.ofNat k).toNatClampNeg = 32 * t + k := i32k (by omega) (by omega)
    have E := zl_kh S e
    rw [ix, o32 (n := k) (by omega), i32n (n := le) (by omega), show Int32.ofNat le - Int32.ofInt 0 = Int32.ofNat le from by rw [zN, sN (Nat.zero_le le) (by omega), Nat.sub_zero]] at E
    rw [HKL_s] at hL ⊢
    rcases E with ⟨z, -, e⟩ | ⟨z, z2, w⟩ | ⟨z, z2, -, e⟩
    · have f : ¬ (decide ((hm.1 255 (32 * t + k)).toInt ≠ 0) = true) := fun y => (of_decide_eq_true y) z
      rw [if_neg f] at hL ⊢
      exact zr_kh S t6 n (k + 1) le (by omega) hl hL e
    · have f : decide ((hm.1 255 (32 * t + k)).toInt ≠ 0) = true := decide_eq_true z
      rw [if_pos f]
      have l0 : le = 0 := by omega
      subst l0
      exact ⟨k, rfl, w⟩
    · have f : decide ((hm.1 255 (32 * t + k)).toInt ≠ 0) = true := decide_eq_true z
      rw [if_pos f] at hL ⊢
      obtain ⟨le', rfl⟩ : ∃ x, le = x + 1 := ⟨le - 1, by omega⟩
      rw [List.length_cons] at hL
      rw [show Int32.ofInt 1 = Int32.ofNat 1 from by decide, sN (by omega) (by omega), Nat.add_sub_cancel] at e
      exact zr_kh S t6 n (k + 1) le' (by omega) (by omega) (by omega) e
