
set_option maxRecDepth 20000
/-! A ROW IS MOVED, ON BOTH SIDES -/
theorem addI1 {x : Int32} (h : x.toInt < 2147483647) : (x + Int32.ofInt 1).toInt = x.toInt + 1 := by
  have e : (Int32.ofInt 1).toInt = 1 := by decide
  rw [Int32.toInt_add, e]
  have := Int32.le_toInt x
  rw [Int.bmod_eq_of_le (by omega) (by omega)]
def MV (h hm : Hp) (t s a b n rm : Nat) (card : Int32) (l : List Nat) : Prop :=
  AB t s a b ∧ SW t s a b h.2 ∧ (∀ r : Nat, r < 8 → r ≠ rm → RLx (h.1 (15 + 24 * t + 4 * s)) (h.1 a r) (inP hm t s 0 r) (kS hm t s)) ∧ RLl (h.1 (15 + 24 * t + 4 * s)) card (inP hm t s 0 rm) (kS hm t s) l ∧ RWs h hm t s b 1 ∧
  (∀ q, q < 8 → kH hm t s q ≠ 0 → kS hm t s q ≤ (hm.1 223 42).toInt) ∧ (0 ≤ (hm.1 223 42).toInt ∧ (hm.1 223 42).toInt + l.length ≤ 95000) ∧
  ∀ q, q < 8 → kH hm t s q ≠ 0 → (kN hm t s q = 0 ∨ kN hm t s q = 1) ∧ (kN hm t s q = 0 → kR hm t s q = ((q % n : Nat) : Int) ∧ (rm : Int) ≤ kR hm t s q) ∧ (kN hm t s q = 1 → kR hm t s q = ((q % (2 * n) : Nat) : Int))
theorem MV.step {h hm h' hm' : Hp} {t s a b n rm q : Nat} {card : Int32} {l : List Nat} (t6 : t < 6) (s4 : s < 4) (hn : n = 1 ∨ n = 2) (V : MV h hm t s a b n rm card (q :: l))
    (eh : h' = fl_setI (fl_setI (fl_setI h (15 + 24 * t + 4 * s) q (h.1 b (q % (2 * n)))) b (q % (2 * n)) (Int32.ofNat q)) (12 + 24 * t + 4 * s) 8 (h.1 (12 + 24 * t + 4 * s) 8 + Int32.ofInt 1))
    (em : hm' = fl_setI (fl_setI (fl_setI (fl_setI (fl_setI hm 223 42 (hm.1 223 42 + Int32.ofInt 1)) 259 (32 * t + (4 * q + s)) (hm.1 223 42 + Int32.ofInt 1)) 258 (32 * t + (4 * q + s)) (Int32.ofInt 1)) 257 (32 * t + (4 * q + s)) (Int32.ofNat (q % (2 * n)))) 270 t (hm.1 270 t + Int32.ofInt 1)) : MV h' hm' t s a b n rm (h.1 (15 + 24 * t + 4 * s) q) l := by
  obtain ⟨ab, w, R1, R2, R3, B1, B2, B3⟩ := V
  obtain ⟨u1, u2, u3, u4, u5⟩ := R2.un
  have q2 : q % (2 * n) < 8 := (n_q u2 (by omega)).2
  have ab' := ab
  unfold AB at ab'
  have xb : ∀ j, h'.1 b j = if j = q % (2 * n) then Int32.ofNat q else h.1 b j := fun j => by
    rw [eh, setI_no (by omega)]
    by_cases y : j = q % (2 * n)
    · rw [if_pos y, y, setI_at]
    · rw [if_neg y, setI_no (fun z => y z.2), setI_no (by omega)]
  have xl : ∀ j, h'.1 (15 + 24 * t + 4 * s) j = if j = q then h.1 b (q % (2 * n)) else h.1 (15 + 24 * t + 4 * s) j := fun j => by
    rw [eh, setI_no (by omega), setI_no (by omega)]
    by_cases y : j = q
    · rw [if_pos y, y, setI_at]
    · rw [if_neg y, setI_no (fun z => y z.2)]
  have xa : ∀ j, h'.1 a j = h.1 a j := fun j => by
    rw [eh, setI_no (by omega), setI_no (by omega), setI_no (by omega)]
  have x2 : h'.2 = h.2 := by rw [eh]; rfl
  have s1 : (hm.1 223 42 + Int32.ofInt 1).toInt = (hm.1 223 42).toInt + 1 := addI1 (by have := B2.2; omega)
  have y42 : hm'.1 223 42 = hm.1 223 42 + Int32.ofInt 1 := by
    rw [em, setI_no (by omega), setI_no (by omega), setI_no (by omega), setI_no (by omega), setI_at]
  have yH : ∀ x, kH hm' t s x = kH hm t s x := fun x => by
    unfold kH
    rw [em, setI_no (by omega), setI_no (by omega), setI_no (by omega), setI_no (by omega), setI_no (by omega)]
  have yN : ∀ x, kN hm' t s x = if x = q then 1 else kN hm t s x := fun x => by
    unfold kN
    rw [em, setI_no (by omega), setI_no (by omega)]
    by_cases y : x = q
    · rw [if_pos y, y, setI_at]; decide
    · rw [if_neg y, setI_no (by omega), setI_no (by omega), setI_no (by omega)]
  have yR : ∀ x, kR hm' t s x = if x = q then ((q % (2 * n) : Nat) : Int) else kR hm t s x := fun x => by
    unfold kR
    rw [em, setI_no (by omega)]
    by_cases y : x = q
    · rw [if_pos y, y, setI_at]; exact i32n (by omega)
    · rw [if_neg y, setI_no (by omega), setI_no (by omega), setI_no (by omega), setI_no (by omega)]
  have yS : ∀ x, kS hm' t s x = if x = q then (hm.1 223 42).toInt + 1 else kS hm t s x := fun x => by
    unfold kS
    rw [em, setI_no (by omega), setI_no (by omega), setI_no (by omega)]
    by_cases y : x = q
    · rw [if_pos y, y, setI_at]; exact s1
    · rw [if_neg y, setI_no (by omega), setI_no (by omega)]
  clear eh em
  refine ⟨ab, by rw [x2]; exact w, fun r hr hne => ?_, u5.fr (fun x hx px => ⟨?_, ?_⟩) (fun x hx => ?_), fun r hr => ?_, fun x hx hz => ?_, ⟨?_, ?_⟩, fun x hx hz => ?_⟩
  · rw [xa]
    have key : ∀ x, inP hm t s 0 r x → x ≠ q := fun x px e => by
      subst e
      exact hne (by have := px.2.2; have := u3.2.2; omega)
    refine (R1 r hr hne).fr (fun x hx px => ⟨by rw [xl, if_neg (key x px)], by rw [yS, if_neg (key x px)]⟩) (fun x hx => ?_)
    by_cases y : x = q
    · refine ⟨fun z => ?_, fun z => absurd y (key x z)⟩
      have := z.2.1
      rw [yN, if_pos y] at this
      omega
    · unfold inP
      rw [yH, yN, yR, if_neg y, if_neg y]
  · rw [xl, if_neg px.2]
  · rw [yS, if_neg px.2]
  · by_cases y : x = q
    · refine ⟨fun z => ?_, fun z => absurd y z.2⟩
      have := z.2.1
      rw [yN, if_pos y] at this
      omega
    · unfold inP
      rw [yH, yN, yR, if_neg y, if_neg y]
      exact ⟨fun z => ⟨z, y⟩, fun z => z.1⟩
  · by_cases er : r = q % (2 * n)
    · rw [xb, if_pos er]
      have key : ∀ x, inP hm t s 1 r x → x ≠ q := fun x px e => by
        subst e
        have := px.2.1
        have := u3.2.1
        omega
      refine RLx.push (R3 r hr) u2 (fun x hx px => ⟨by rw [xl, if_neg (key x px)], by rw [yS, if_neg (key x px)], ?_⟩) (by rw [xl, if_pos rfl, er]) (fun x hx => ?_)
      · rw [yS, if_pos rfl]
        have := B1 x hx px.1
        omega
      · by_cases y : x = q
        · refine ⟨fun _ => Or.inl y, fun _ => ?_⟩
          unfold inP
          rw [yH, yN, yR, if_pos y, if_pos y, y]
          exact ⟨u3.1, rfl, by rw [er]⟩
        · unfold inP
          rw [yH, yN, yR, if_neg y, if_neg y]
          exact ⟨fun z => Or.inr z, fun z => z.resolve_left y⟩
    · rw [xb, if_neg er]
      have key : ∀ x, inP hm t s 1 r x → x ≠ q := fun x px e => by
        subst e
        have := px.2.1
        have := u3.2.1
        omega
      refine (R3 r hr).fr (fun x hx px => ⟨by rw [xl, if_neg (key x px)], by rw [yS, if_neg (key x px)]⟩) (fun x hx => ?_)
      by_cases y : x = q
      · refine ⟨fun z => ?_, fun z => absurd y (key x z)⟩
        have := z.2.2
        rw [yR, if_pos y] at this
        omega
      · unfold inP
        rw [yH, yN, yR, if_neg y, if_neg y]
  · rw [yS, y42, s1]
    rw [yH] at hz
    have := B1 x hx hz
    split <;> omega
  · rw [y42, s1]; omega
  · rw [y42, s1]
    have := B2.2
    rw [List.length_cons] at this
    omega
  · rw [yH] at hz
    rw [yN, yR]
    by_cases y : x = q
    · rw [if_pos y, if_pos y, y]
      exact ⟨Or.inr rfl, fun z => by omega, fun _ => rfl⟩
    · rw [if_neg y, if_neg y]
      exact B3 x hx hz
/-- what moving cards touches -/
def UPm (t s b : Nat) (h hm h' hm' : Hp) : Prop := (∀ r j : Nat, ¬ (r = 15 + 24 * t + 4 * s) → ¬ (r = b) → ¬ (r = 12 + 24 * t + 4 * s ∧ j = 8) → h'.1 r j = h.1 r j) ∧ h'.2 = h.2 ∧ (∀ K j : Nat, ¬ (K = 223 ∧ j = 42) → ¬ (257 ≤ K ∧ K ≤ 259 ∧ 32 * t ≤ j ∧ j < 32 * t + 32 ∧ j % 4 = s) → ¬ (K = 270 ∧ j = t) → hm'.1 K j = hm.1 K j) ∧ hm'.2 = hm.2 ∧ ∃ x, h'.1 (12 + 24 * t + 4 * s) 8 = h.1 (12 + 24 * t + 4 * s) 8 + x ∧ hm'.1 270 t = hm.1 270 t + x
theorem UPm.refl (t s b : Nat) (h hm : Hp) : UPm t s b h hm h hm := ⟨fun _ _ _ _ _ => rfl, rfl, fun _ _ _ _ _ => rfl, rfl, Int32.ofInt 0, (Int32.add_zero _).symm, (Int32.add_zero _).symm⟩
theorem UPm.trans {t s b : Nat} {h hm h1 hm1 h2 hm2 : Hp} (x : UPm t s b h hm h1 hm1) (y : UPm t s b h1 hm1 h2 hm2) : UPm t s b h hm h2 hm2 := by
  obtain ⟨x1, x2, x3, x4, u, x5, x6⟩ := x
  obtain ⟨y1, y2, y3, y4, v, y5, y6⟩ := y
  exact ⟨fun r j z1 z2 z3 => (y1 r j z1 z2 z3).trans (x1 r j z1 z2 z3), y2.trans x2, fun K j z1 z2 z3 => (y3 K j z1 z2 z3).trans (x3 K j z1 z2 z3), y4.trans x4, u + v, by rw [y5, x5, Int32.add_assoc], by rw [y6, x6, Int32.add_assoc]⟩
theorem UPm.x {t s a b : Nat} {h hm h' hm' : Hp} (ab : AB t s a b) (x : UPm t s b h hm h' hm') : UPx t s h hm h' hm' := by
  unfold AB at ab
  obtain ⟨x1, x2, x3, x4, u, x5, x6⟩ := x
  exact ⟨⟨fun r j z => x1 r j (by omega) (by omega) (by omega), fun r j _ => by rw [x2]⟩, ⟨fun K j z1 z2 z3 z4 => x3 K j z1 z2 (by omega), x4⟩, ⟨Int32.ofInt 0, by rw [x1 _ _ (by omega) (by omega) (by omega)]; exact (Int32.add_zero _).symm, by rw [x3 _ _ (by omega) (by omega) (by omega)]; exact (Int32.add_zero _).symm⟩, u, x5, x6⟩
theorem nx_list {h hm : Hp} {t s rm : Nat} {b : Nat → Int32} {c v : Int32} {bf : Int} {l : List Nat} (R : RLl b c (inP hm t s 0 rm) (kS hm t s) l) (B : ∀ q, q < 8 → kH hm t s q ≠ 0 → kS hm t s q < bf) (p : nxV hm t s 0 rm bf 8 v) : (l = [] ∧ v = Int32.ofInt (-1)) ∨ ∃ q l', l = q :: l' ∧ v = Int32.ofNat (4 * q + s) := by
  cases l with
  | nil =>
    rcases p with ⟨p1, p2⟩ | ⟨q, p1, p2, p3, p4⟩
    · exact Or.inl ⟨rfl, p1⟩
    · exact absurd p3.1 (R.nil.2 q p1)
  | cons q l =>
    obtain ⟨u1, u2, u3, u4, u5⟩ := R.un
    rcases p with ⟨p1, p2⟩ | ⟨q', p1, p2, p3, p4⟩
    · exact absurd ⟨u3, B q u2 u3.1⟩ (p2 q u2 u2)
    · by_cases y : q' = q
      · rw [y] at p2
        exact Or.inr ⟨q, l, rfl, p2⟩
      · have := u4 q' p1 p3.1 y
        have := p4 q u2 u2 u3 (B q u2 u3.1)
        omega
theorem mv_loop {d d2 t s a b n rm q0 : Nat} {r r2 : Option Value × Hp × Nat} (t6 : t < 6) (s4 : s < 4) (q08 : q0 < 8) (hn : n = 1 ∨ n = 2) : ∀ (l : List Nat) (k : Nat) {h hm : Hp} {card kk : Int32} {o3 o4 : Option Value}, SH hm.2 → h.1 (12 + 24 * t + 4 * s) 3 = Int32.ofNat n → hm.1 266 (4 * t + s) = Int32.ofNat n → MV h hm t s a b n rm card l → rm < 8 → k + l.length ≤ 8 → ((l = [] ∧ kk = Int32.ofInt (-1)) ∨ ∃ q l', l = q :: l' ∧ kk = Int32.ofNat (4 * q + s)) →
    Ev d 49 (23, [some (.ref (12 + 24 * t + 4 * s)), some (.int card), some (.int (Int32.ofNat k)), o3, o4], [], h, fl_tot) r → Ev d2 162 (38, [some (.ref 223), some (.int (Int32.ofNat t)), some (.int (Int32.ofNat (4 * q0 + s))), some (.int (Int32.ofNat (4 * t + s))), some (.int (Int32.ofNat rm)), some (.int kk), none], [], hm, fl_tot) r2 →
    ∃ h' hm' p1 p2 p3 p4 kk', Ev d 49 (101, [some (.ref (12 + 24 * t + 4 * s)), p1, p2, p3, p4], [], h', fl_tot) r ∧ Ev d2 162 (86, [some (.ref 223), some (.int (Int32.ofNat t)), some (.int (Int32.ofNat (4 * q0 + s))), some (.int (Int32.ofNat (4 * t + s))), some (.int (Int32.ofNat rm)), some (.int kk'), none], [], hm', fl_tot) r2 ∧ (∃ c', MV h' hm' t s a b n rm c' []) ∧ UPm t s b h hm h' hm'
  | [], k, h, hm, card, kk, o3, o4, Sm, g1, g2, V, hr, hk, hkk, e, e2 => by
    obtain ⟨ab, w, R1, R2, R3, B1, B2, B3⟩ := id V
    have hkk : kk = Int32.ofInt (-1) := by
      rcases hkk with z | ⟨q, l', z, -⟩
      · exact z.2
      · cases z
    have c1 := R2.nil.1
    have e2 : Ev d2 162 (86, [some (.ref 223), some (.int (Int32.ofNat t)), some (.int (Int32.ofNat (4 * q0 + s))), some (.int (Int32.ofNat (4 * t + s))), some (.int (Int32.ofNat rm)), some (.int kk), none], [], hm, fl_tot) r2 := by
      rcases zs_mv_l Sm e2 with ⟨z, e2⟩ | ⟨z, e2⟩
      · exact e2
      · exact absurd (by rw [hkk]; exact m1i) z
    rcases ys_mv_l w t6 s4 ab e with ⟨z1, e⟩ | ⟨z1, z2, e⟩ | ⟨z1, z2, e⟩
    · exact ⟨h, hm, _, _, _, _, _, e, e2, ⟨_, V⟩, UPm.refl t s b h hm⟩
    · exact ⟨h, hm, _, _, _, _, _, e, e2, ⟨_, V⟩, UPm.refl t s b h hm⟩
    · exact absurd (by rw [c1]; exact m1i) z2
  | q :: l, k, h, hm, card, kk, o3, o4, Sm, g1, g2, V, hr, hk, hkk, e, e2 => by
    obtain ⟨ab, w, R1, R2, R3, B1, B2, B3⟩ := id V
    obtain ⟨u1, u2, u3, u4, u5⟩ := R2.un
    have hkk : kk = Int32.ofNat (4 * q + s) := by
      rcases hkk with z | ⟨q', l', z, z2⟩
      · cases z.1
      · obtain ⟨z3, z4⟩ := List.cons.inj z
        rw [z3]; exact z2
    subst hkk
    have k8 : k < 8 := by rw [List.length_cons] at hk; omega
    have ix : ((Int32.ofInt 32) * Int32.ofNat t + Int32.ofNat (4 * q + s)).toNatClampNeg = 32 * t + (4 * q + s) := i32k (by omega) (by omega)
    have i4 : (Int32.ofNat (4 * t + s)).toNatClampNeg = 4 * t + s := o32c (by omega)
    have it : (Int32.ofNat t).toNatClampNeg = t := o32c (by omega)
    have E2 := zs_mv_l Sm e2
    rw [ix, i4, it, g2, rwm2 u2 s4 (by omega), k_s q08 s4] at E2
    have E1 := ys_mv_l w t6 s4 ab e
    rw [g1, u1, an7 u2, msk2 u2 (by omega)] at E1
    obtain ⟨hm', em⟩ : ∃ z, z = fl_setI (fl_setI (fl_setI (fl_setI (fl_setI hm 223 42 (hm.1 223 42 + Int32.ofInt 1)) 259 (32 * t + (4 * q + s)) (hm.1 223 42 + Int32.ofInt 1)) 258 (32 * t + (4 * q + s)) (Int32.ofInt 1)) 257 (32 * t + (4 * q + s)) (Int32.ofNat (q % (2 * n)))) 270 t (hm.1 270 t + Int32.ofInt 1) := ⟨_, rfl⟩
    obtain ⟨h', eh⟩ : ∃ z, z = fl_setI (fl_setI (fl_setI h (15 + 24 * t + 4 * s) q (h.1 b (q % (2 * n)))) b (q % (2 * n)) (Int32.ofNat q)) (12 + 24 * t + 4 * s) 8 (h.1 (12 + 24 * t + 4 * s) 8 + Int32.ofInt 1) := ⟨_, rfl⟩
    rw [← em] at E2
    rw [← eh] at E1
    have V' := MV.step t6 s4 hn V eh em
    have Sm' : SH hm'.2 := by rw [em]; exact Sm
    rcases E1 with ⟨z1, -⟩ | ⟨z1, z2, -⟩ | ⟨z1, z2, e⟩
    · rw [i32n (by omega)] at z1; omega
    · rw [i32n (by omega)] at z2; omega
    · rw [o32 (by omega)] at e
      rcases E2 with ⟨y1, -⟩ | ⟨y1, e2⟩
      · rw [i32n (by omega)] at y1; omega
      · obtain ⟨d3, v3, h3, n3, z3, ec3, e2⟩ := b_call (m2 := 164) (k := 4) (nL := 5) (as := [.ref 223, .int (Int32.ofNat t), .int (Int32.ofNat s), .int (Int32.ofInt 0), .int (Int32.ofNat rm)]) (rest := []) (L := [some (.ref 223), some (.int (Int32.ofNat t)), some (.int (Int32.ofNat s)), some (.int (Int32.ofInt 0)), some (.int (Int32.ofNat rm))]) e2 (show fl_code 162 78 = some (18, [((164 : Nat) : Int), ((4 : Nat) : Int)], 81) by decide +kernel) rfl (by decide +kernel) rfl rfl rfl
        obtain ⟨v, w3, p⟩ := z_hd Sm' t6 s4 ec3
        obtain ⟨w1, w2, w3⟩ := tri w3
        rw [w1, w2, w3] at e2
        have e2 : Ev d2 162 (81, [some (.ref 223), some (.int (Int32.ofNat t)), some (.int (Int32.ofNat (4 * q0 + s))), some (.int (Int32.ofNat (4 * t + s))), some (.int (Int32.ofNat rm)), some (.int (Int32.ofNat (4 * q + s))), none], [.int v], hm', fl_tot) r2 := e2
        have e2 := zs_mv_2 Sm' e2
        have B := V'.2.2.2.2.2.1
        have B' := V'.2.2.2.2.2.2.1
        have s1 : (hm'.1 223 42 + Int32.ofInt 1).toInt = (hm'.1 223 42).toInt + 1 := addI1 (by omega)
        rw [i32_0, i32n (n := rm) (by omega), s1] at p
        have K := nx_list (h := h') V'.2.2.2.1 (fun x hx hz => by have := B x hx hz; omega) p
        have UP : UPm t s b h hm h' hm' := by
          have ab' := ab
          unfold AB at ab'
          refine ⟨fun r j z1 z2 z3 => ?_, by rw [eh]; rfl, fun K j z1 z2 z3 => ?_, by rw [em]; rfl, Int32.ofInt 1, ?_, ?_⟩
          · rw [eh, setI_no (by omega), setI_no (by omega), setI_no (by omega)]
          · rw [em, setI_no (by omega), setI_no (by omega), setI_no (by omega), setI_no (by omega), setI_no (by omega)]
          · rw [eh, setI_at]
          · rw [em, setI_at]
        obtain ⟨h2, hm2, p1, p2, p3, p4, kk', a1, a2, a3, a4⟩ := mv_loop t6 s4 q08 hn l (k + 1) Sm' (by rw [eh, setI_no (by omega), setI_no (by unfold AB at ab; omega), setI_no (by omega)]; exact g1) (by rw [em, setI_no (by omega), setI_no (by omega), setI_no (by omega), setI_no (by omega), setI_no (by omega)]; exact g2) V' hr (by rw [List.length_cons] at hk; omega) K e e2
        exact ⟨h2, hm2, p1, p2, p3, p4, kk', a1, a2, a3, UP.trans a4⟩
theorem ys_eg {d t s a b : Nat} {h : Hp} {r : Option Value × Hp × Nat} (w : SW t s a b h.2) (t6 : t < 6) (s4 : s < 4) (ab : AB t s a b) (e : Ev d 50 (0, [some (.ref (12 + 24 * t + 4 * s)), none], [], h, fl_tot) r) : r = (none, fl_setI (fl_setI (fl_setI (fl_setR (fl_setR h (12 + 24 * t + 4 * s) 0 (some b)) (12 + 24 * t + 4 * s) 1 (some a)) (12 + 24 * t + 4 * s) 3 ((Int32.ofInt 2) * (h.1 (12 + 24 * t + 4 * s) 3))) (12 + 24 * t + 4 * s) 5 (Int32.ofInt 0)) (12 + 24 * t + 4 * s) 6 (Int32.ofInt 0), fl_tot) := by
  have e := ys_eg_0 w t6 s4 ab e
  have e : Ev d 50 (13, [some (.ref (12 + 24 * t + 4 * s)), some (.ref a)], [], fl_setR h (12 + 24 * t + 4 * s) 0 (some b), fl_tot) r := e.bk [((10, [7, 0], 13), 7)] [] (by decide +kernel) trivial rfl
  have e : Ev d 50 (18, [some (.ref (12 + 24 * t + 4 * s)), some (.ref a)], [], fl_setR (fl_setR h (12 + 24 * t + 4 * s) 0 (some b)) (12 + 24 * t + 4 * s) 1 (some a), fl_tot) r := e.bk [((2, [0, 2], 14), 0), ((2, [1, 2], 15), 0), ((10, [7, 1], 18), 7)] [] (by decide +kernel) trivial rfl
  have w' : SW t s b a (fl_setR (fl_setR h (12 + 24 * t + 4 * s) 0 (some b)) (12 + 24 * t + 4 * s) 1 (some a)).2 := ⟨by rw [rR, if_neg (by omega), rR, if_pos ⟨rfl, rfl⟩], by rw [rR, if_pos ⟨rfl, rfl⟩], by rw [rR, if_neg (by omega), rR, if_neg (by omega)]; exact w.2.2⟩
  exact ys_eg_1 (hd := b) (nh := a) w' t6 s4 (by unfold AB at ab; omega) e
theorem mv_both {d d2 t s q0 : Nat} {h hm : Hp} {r r2 : Option Value × Hp × Nat} (t6 : t < 6) (s4 : s < 4) (q08 : q0 < 8) (Sm : SH hm.2) (A : STS h hm t s) (B1 : ∀ q, q < 8 → kH hm t s q ≠ 0 → kS hm t s q ≤ (hm.1 223 42).toInt) (B2 : 0 ≤ (hm.1 223 42).toInt ∧ (hm.1 223 42).toInt ≤ 90000)
    (e : Ev d 49 (0, [some (.ref (12 + 24 * t + 4 * s)), none, none, none, none], [], h, fl_tot) r) (e2 : Ev d2 162 (0, [some (.ref 223), some (.int (Int32.ofNat t)), some (.int (Int32.ofNat (4 * q0 + s))), none, none, none, none], [], hm, fl_tot) r2) : ∃ h' hm', r = (none, h', fl_tot) ∧ r2 = (none, hm', fl_tot) ∧ STS h' hm' t s ∧ UPx t s h hm h' hm' := by
  obtain ⟨a, b, n, rm, ab, w, ⟨o1, o2⟩, ⟨g1, g2, g3⟩, g4, g5, g6, g7⟩ := id A
  have i4 : (Int32.ofNat (4 * t + s)).toNatClampNeg = 4 * t + s := o32c (by omega)
  have V1 := ys_mv_0 w t6 s4 ab e
  have V2 := zs_mv_0 Sm e2
  rw [k_s q08 s4, k_t t6 s4, i4] at V2
  by_cases gr : (hm.1 267 (4 * t + s)).toInt = 0
  · rcases V1 with ⟨z, -⟩ | ⟨z, w1⟩
    · exact absurd (by rw [g3]; exact gr) z
    · rcases V2 with ⟨z, -⟩ | ⟨z, w2⟩
      · exact absurd gr z
      · exact ⟨h, hm, w1, w2, A, UPx.refl t s h hm⟩
  · obtain ⟨n2, rn, g8, g9⟩ := g5 gr
    have hn : n = 1 ∨ n = 2 := by omega
    rw [g8, an7 (by omega)] at V1
    rw [g9] at V2
    rcases V1 with ⟨z, e⟩ | ⟨z, -⟩
    · rcases V2 with ⟨z2, e2⟩ | ⟨z2, -⟩
      · obtain ⟨d3, v3, h3, n3, z3, ec3, e2⟩ := b_call (m2 := 164) (k := 4) (nL := 5) (as := [.ref 223, .int (Int32.ofNat t), .int (Int32.ofNat s), .int (Int32.ofInt 0), .int (Int32.ofNat rm)]) (rest := []) (L := [some (.ref 223), some (.int (Int32.ofNat t)), some (.int (Int32.ofNat s)), some (.int (Int32.ofInt 0)), some (.int (Int32.ofNat rm))]) e2 (show fl_code 162 33 = some (18, [((164 : Nat) : Int), ((4 : Nat) : Int)], 36) by decide +kernel) rfl (by decide +kernel) rfl rfl rfl
        obtain ⟨v, w3, p⟩ := z_hd Sm t6 s4 ec3
        obtain ⟨w1, w2, w3⟩ := tri w3
        rw [w1, w2, w3] at e2
        have e2 : Ev d2 162 (36, [some (.ref 223), some (.int (Int32.ofNat t)), some (.int (Int32.ofNat (4 * q0 + s))), some (.int (Int32.ofNat (4 * t + s))), some (.int (Int32.ofNat rm)), none, none], [.int v], hm, fl_tot) r2 := e2
        have e2 := zs_mv_1 Sm e2
        obtain ⟨l, R⟩ := o1 rm (by omega)
        have len := R.len
        have s1 : (hm.1 223 42 + Int32.ofInt 1).toInt = (hm.1 223 42).toInt + 1 := addI1 (by omega)
        rw [i32_0, i32n (n := rm) (by omega), s1] at p
        have KK := nx_list (h := h) R (fun x hx hz => by have := B1 x hx hz; omega) p
        have V : MV h hm t s a b n rm (h.1 a rm) l := ⟨ab, w, fun r hr _ => o1 r hr, R, o2, B1, ⟨B2.1, by omega⟩, fun q hq hz => ⟨(g7 q hq hz).1, fun y => ⟨((g7 q hq hz).2.1 y).1, ((g7 q hq hz).2.1 y).2 gr⟩, fun y => ((g7 q hq hz).2.2 y).2⟩⟩
        obtain ⟨h1, hm1, p1, p2, p3, p4, kk', e, e2, ⟨c', V'⟩, UP⟩ := mv_loop t6 s4 q08 hn l 0 Sm g1 g2 V (by omega) (by omega) KK e e2
        have U := UP.x ab
        obtain ⟨-, w', R1, R2, R3, D1, D2, D3⟩ := V'
        obtain ⟨x1, x2, x3, x4, -⟩ := UP
        have ab' := ab
        unfold AB at ab'
        have c3 : h1.1 (12 + 24 * t + 4 * s) 3 = Int32.ofNat n := by rw [x1 _ _ (by omega) (by omega) (by omega)]; exact g1
        have c4 : h1.1 (12 + 24 * t + 4 * s) 4 = Int32.ofNat (nH hm1 t s 8) := by
          rw [x1 _ _ (by omega) (by omega) (by omega), nH_eq (h := hm) (h' := hm1) 8 (fun q hq => by unfold kH; rw [x3 _ _ (by omega) (by omega) (by omega)])]; exact g6
        have c5 : h1.1 (12 + 24 * t + 4 * s) 5 = hm1.1 267 (4 * t + s) := by rw [x1 _ _ (by omega) (by omega) (by omega), x3 _ _ (by omega) (by omega) (by omega)]; exact g3
        have c6 : h1.1 (12 + 24 * t + 4 * s) 6 = Int32.ofNat rm := by rw [x1 _ _ (by omega) (by omega) (by omega)]; exact g8
        have m6 : hm1.1 266 (4 * t + s) = Int32.ofNat n := by rw [x3 _ _ (by omega) (by omega) (by omega)]; exact g2
        have m8 : hm1.1 268 (4 * t + s) = Int32.ofNat rm := by rw [x3 _ _ (by omega) (by omega) (by omega)]; exact g9
        have m7 : (hm1.1 267 (4 * t + s)).toInt ≠ 0 := by rw [x3 _ _ (by omega) (by omega) (by omega)]; exact gr
        have Sm1 : SH hm1.2 := by rw [x4]; exact Sm
        have E1 := ys_mv_t w' t6 s4 ab e
        have E2 := zs_mv_e Sm1 e2
        rw [c6, c3, an7 (by omega), o32 (by omega), i32n (n := rm + 1) (by omega), i32n (n := n) (by omega)] at E1
        rw [i4, m8, m6, o32 (by omega), i32n (n := rm + 1) (by omega), i32n (n := n) (by omega), k_s q08 s4] at E2
        have nil := R2.nil
        have R0 : ∀ r : Nat, r < 8 → RLx (h1.1 (15 + 24 * t + 4 * s)) (if r = rm then Int32.ofInt (-1) else h1.1 a r) (inP hm1 t s 0 r) (kS hm1 t s) := fun r hr => by
          by_cases y : r = rm
          · rw [if_pos y, y]; exact ⟨_, RLl.empty nil.2⟩
          · rw [if_neg y]; exact R1 r hr y
        obtain ⟨ha, eha⟩ : ∃ z, z = fl_setI (fl_setI h1 a rm (Int32.ofInt (-1))) (12 + 24 * t + 4 * s) 6 (Int32.ofNat (rm + 1)) := ⟨_, rfl⟩
        rw [← eha] at E1
        have f1 : ∀ r j : Nat, r ≠ a → ¬ (r = 12 + 24 * t + 4 * s ∧ j = 6) → ha.1 r j = h1.1 r j := fun r j z1 z2 => by rw [eha, setI_no z2, setI_no (fun z => z1 z.1)]
        have f2 : ∀ j : Nat, ha.1 a j = if j = rm then Int32.ofInt (-1) else h1.1 a j := fun j => by
          rw [eha, setI_no (by omega)]
          by_cases y : j = rm
          · rw [if_pos y, y, setI_at]
          · rw [if_neg y, setI_no (fun z => y z.2)]
        have f3 : ha.1 (12 + 24 * t + 4 * s) 6 = Int32.ofNat (rm + 1) := by rw [eha, setI_at]
        have f4 : ha.2 = h1.2 := by rw [eha]; rfl
        by_cases fin : rm + 1 < n
        · rcases E1 with ⟨z, w1⟩ | ⟨z, -⟩
          · rcases E2 with ⟨z2, w2⟩ | ⟨z2, -⟩
            · refine ⟨ha, _, w1, w2, ⟨a, b, n, rm + 1, ab, by rw [f4]; exact w', ⟨fun r hr => ?_, fun r hr => ?_⟩, ⟨?_, ?_, ?_⟩, g4, fun _ => ⟨n2, fin, f3, setI_at⟩, ?_, fun q hq hz => ⟨(D3 q hq hz).1, fun y => ⟨((D3 q hq hz).2.1 y).1, fun _ => ?_⟩, fun y => ⟨?_, (D3 q hq hz).2.2 y⟩⟩⟩, U.trans ⟨⟨fun r j z => f1 r j (by omega) (by omega), fun r j _ => by rw [f4]⟩, ⟨fun K j z1 z2 z3 z4 => setI_no (by omega), rfl⟩, ⟨Int32.ofInt 0, by rw [f1 _ _ (by omega) (by omega)]; exact (Int32.add_zero _).symm, by rw [setI_no (by omega)]; exact (Int32.add_zero _).symm⟩, ⟨Int32.ofInt 0, by rw [f1 _ _ (by omega) (by omega)]; exact (Int32.add_zero _).symm, by rw [setI_no (by omega)]; exact (Int32.add_zero _).symm⟩⟩⟩
              · rw [f2]
                exact (R0 r hr).fr (fun q hq _ => ⟨f1 _ _ (by omega) (by omega), rfl⟩) (fun q hq => Iff.rfl)
              · rw [f1 _ _ (by omega) (by omega)]
                exact (R3 r hr).fr (fun q hq _ => ⟨f1 _ _ (by omega) (by omega), rfl⟩) (fun q hq => Iff.rfl)
              · rw [f1 _ _ (by omega) (by omega)]; exact c3
              · rw [setI_no (by omega)]; exact m6
              · rw [f1 _ _ (by omega) (by omega), setI_no (by omega)]; exact c5
              · rw [f1 _ _ (by omega) (by omega)]; exact c4
              · have k1 := ((D3 q hq hz).2.1 y).2
                have k2 : kR hm1 t s q ≠ (rm : Int) := fun z => nil.2 q hq ⟨hz, y, z⟩
                show ((rm + 1 : Nat) : Int) ≤ kR hm1 t s q
                omega
              · rw [setI_no (by omega)]; exact m7
            · omega
          · omega
        · rcases E1 with ⟨z, -⟩ | ⟨z, e⟩
          · omega
          · rcases E2 with ⟨z2, -⟩ | ⟨z2, e2⟩
            · omega
            · rw [two_n (by omega)] at e2
              obtain ⟨hb, ehb⟩ : ∃ z, z = fl_setI (fl_setI (fl_setI hm1 268 (4 * t + s) (Int32.ofNat (rm + 1))) 266 (4 * t + s) (Int32.ofNat (2 * n))) 267 (4 * t + s) (Int32.ofInt 0) := ⟨_, rfl⟩
              rw [← ehb] at e2
              have Sb : SH hb.2 := by rw [ehb]; exact Sm1
              have e2 : Ev d2 162 (137, [some (.ref 223), some (.int (Int32.ofNat t)), some (.int (Int32.ofNat (4 * q0 + s))), some (.int (Int32.ofNat (4 * t + s))), some (.int (Int32.ofNat rm)), some (.int kk'), some (.int (Int32.ofNat (4 * 0 + s)))], [], hb, fl_tot) r2 := by
                rw [Nat.mul_zero, Nat.zero_add]
                exact e2
              obtain ⟨hm3, w2, b1, b2, b3⟩ := z_old t6 s4 9 0 Sb (by omega) (by omega) e2
              obtain ⟨d4, v4, h4, n4, z4, ec4, e⟩ := b_call (m2 := 50) (k := 0) (nL := 2) (as := [.ref (12 + 24 * t + 4 * s)]) (rest := []) (L := [some (.ref (12 + 24 * t + 4 * s)), none]) e (show fl_code 49 136 = some (18, [((50 : Nat) : Int), ((0 : Nat) : Int)], 139) by decide +kernel) rfl (by decide +kernel) rfl rfl rfl
              have y := ys_eg (by rw [f4]; exact w') t6 s4 ab ec4
              rw [f1 _ 3 (by omega) (by omega), c3, two_n (by omega)] at y
              obtain ⟨y1, y2, y3⟩ := tri y
              rw [y1, y2, y3] at e
              obtain ⟨h3, eh3⟩ : ∃ z, z = fl_setI (fl_setI (fl_setI (fl_setR (fl_setR ha (12 + 24 * t + 4 * s) 0 (some b)) (12 + 24 * t + 4 * s) 1 (some a)) (12 + 24 * t + 4 * s) 3 (Int32.ofNat (2 * n))) (12 + 24 * t + 4 * s) 5 (Int32.ofInt 0)) (12 + 24 * t + 4 * s) 6 (Int32.ofInt 0) := ⟨_, rfl⟩
              rw [← eh3] at e
              have e : Ev d 49 (139, [some (.ref (12 + 24 * t + 4 * s)), p1, p2, p3, p4], [], h3, fl_tot) r := e
              have w1 := b21 e (show fl_code 49 139 = some (21, [], 140) by decide +kernel)
              have F1 : ∀ r j : Nat, ¬ (r = 12 + 24 * t + 4 * s ∧ (j = 3 ∨ j = 5 ∨ j = 6)) → h3.1 r j = ha.1 r j := fun r j z => by
                rw [eh3, setI_no (by omega), setI_no (by omega), setI_no (by omega)]
                rfl
              have F3 : h3.1 (12 + 24 * t + 4 * s) 3 = Int32.ofNat (2 * n) := by rw [eh3, setI_no (by omega), setI_no (by omega), setI_at]
              have F5 : h3.1 (12 + 24 * t + 4 * s) 5 = Int32.ofInt 0 := by rw [eh3, setI_no (by omega), setI_at]
              have F2 : ∀ r j : Nat, h3.2 r j = if r = 12 + 24 * t + 4 * s ∧ j = 1 then some a else if r = 12 + 24 * t + 4 * s ∧ j = 0 then some b else ha.2 r j := fun r j => by
                rw [eh3]
                rfl
              have M7 : hm3.1 267 (4 * t + s) = Int32.ofInt 0 := by rw [b2 _ _ (by omega), ehb, setI_at]
              have M6 : hm3.1 266 (4 * t + s) = Int32.ofNat (2 * n) := by rw [b2 _ _ (by omega), ehb, setI_no (by omega), setI_at]
              have Mo : ∀ K j : Nat, ¬ (K = 258 ∧ 32 * t ≤ j ∧ j < 32 * t + 32 ∧ j % 4 = s) → ¬ (266 ≤ K ∧ K ≤ 268 ∧ j = 4 * t + s) → hm3.1 K j = hm1.1 K j := fun K j z1 z2 => by
                rw [b2 _ _ (by omega), ehb, setI_no (by omega), setI_no (by omega), setI_no (by omega)]
              have yH : ∀ q, q < 8 → kH hm3 t s q = kH hm1 t s q := fun q hq => by unfold kH; rw [Mo _ _ (by omega) (by omega)]
              have yR : ∀ q, q < 8 → kR hm3 t s q = kR hm1 t s q := fun q hq => by unfold kR; rw [Mo _ _ (by omega) (by omega)]
              have yS : ∀ q, q < 8 → kS hm3 t s q = kS hm1 t s q := fun q hq => by unfold kS; rw [Mo _ _ (by omega) (by omega)]
              have yN : ∀ q, q < 8 → kN hm3 t s q = 0 := fun q hq => b1 q (Nat.zero_le _) hq
              have n1 : ∀ q, q < 8 → kH hm1 t s q ≠ 0 → kN hm1 t s q = 1 := fun q hq hz => by
                rcases (D3 q hq hz).1 with y | y
                · exfalso
                  obtain ⟨k1, k2⟩ := (D3 q hq hz).2.1 y
                  have k3 := (n_q hq (n := n) (by omega)).1
                  exact nil.2 q hq ⟨hz, y, by omega⟩
                · exact y
              have w3 : SW t s b a h3.2 := ⟨by rw [F2, if_neg (by omega), if_pos ⟨rfl, rfl⟩], by rw [F2, if_pos ⟨rfl, rfl⟩], by rw [F2, if_neg (by omega), if_neg (by omega), f4]; exact w'.2.2⟩
              refine ⟨h3, hm3, w1, w2, ⟨b, a, 2 * n, 0, by unfold AB; omega, w3, ⟨fun r hr => ?_, fun r hr => ?_⟩, ⟨F3, M6, by rw [F5, M7]⟩, by omega, fun z => absurd (by rw [M7]; exact i32_0) z, ?_, fun q hq hz => ?_⟩, U.trans ⟨⟨fun r j z => ?_, fun r j z => ?_⟩, ⟨fun K j z1 z2 z3 z4 => Mo K j (by omega) (by omega), b3.trans (by rw [ehb]; rfl)⟩, ⟨Int32.ofInt 0, ?_, ?_⟩, ⟨Int32.ofInt 0, ?_, ?_⟩⟩⟩
              · rw [F1 _ _ (by omega), f1 _ _ (by omega) (by omega)]
                refine (R3 r hr).fr (fun q hq _ => ⟨by rw [F1 _ _ (by omega), f1 _ _ (by omega) (by omega)], yS q hq⟩) (fun q hq => ?_)
                unfold inP
                rw [yH q hq, yN q hq, yR q hq]
                exact ⟨fun z => ⟨z.1, n1 q hq z.1, z.2.2⟩, fun z => ⟨z.1, rfl, z.2.2⟩⟩
              · rw [F1 _ _ (by omega), f2, (R0 r hr).none (fun q hq z => by have := n1 q hq z.1; have := z.2.1; omega)]
                exact ⟨_, RLl.empty (fun q hq z => by have := yN q hq; have := z.2.1; omega)⟩
              · rw [F1 _ _ (by omega), f1 _ _ (by omega) (by omega), nH_eq (h := hm1) (h' := hm3) 8 (fun q hq => by rw [yH q hq])]; exact c4
              · rw [yH q hq] at hz
                rw [yN q hq, yR q hq]
                exact ⟨Or.inl rfl, fun _ => ⟨(D3 q hq hz).2.2 (n1 q hq hz), fun z => absurd (by rw [M7]; exact i32_0) z⟩, fun z => by omega⟩
              · rw [F1 _ _ (by omega), f1 _ _ (by omega) (by omega)]
              · rw [F2, if_neg (by omega), if_neg (by omega), f4]
              · rw [F1 _ _ (by omega), f1 _ _ (by omega) (by omega)]; exact (Int32.add_zero _).symm
              · rw [Mo _ _ (by omega) (by omega)]; exact (Int32.add_zero _).symm
              · rw [F1 _ _ (by omega), f1 _ _ (by omega) (by omega)]; exact (Int32.add_zero _).symm
              · rw [Mo _ _ (by omega) (by omega)]; exact (Int32.add_zero _).symm
      · exact absurd z2 gr
    · exact absurd (by rw [← g3]; exact z) gr
