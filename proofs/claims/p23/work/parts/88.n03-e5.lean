
set_option maxRecDepth 20000
/-! A RUN OF EXPLORE'S IS JUDGED, BOTH SIDES -/
abbrev sKs : List Nat := [82, 83, 84, 85, 86, 87, 88, 89]
abbrev sFs : List Int := [60, 64, 68, 69]
theorem FJ.refl (h : Hp) : FJ h h := ⟨fun _ _ _ => rfl, fun _ _ _ _ => rfl⟩
theorem FJ.trans {a b c : Hp} (x : FJ a b) (y : FJ b c) : FJ a c := ⟨fun r j z => (y.1 r j z).trans (x.1 r j z), fun r j z1 z2 => (y.2 r j z1 z2).trans (x.2 r j z1 z2)⟩
/-- a search of the reference's, whatever it answers -/
theorem z_srch {hm : Hp} {t d : Nat} {r : Option Value × Hp × Nat} (hT : TInv hm) (I : RI hm) (ht : t < 6) (e : Ev d 194 (0, [some (.ref 223), some (.int (Int32.ofNat t)), some (.int (Int32.ofInt 300)), none, none], [], hm, fl_tot) r) : ∃ (v : Int32) (hm' : Hp), r = (some (.int v), hm', fl_tot) ∧ TInv hm' ∧ RI hm' ∧ Fq sKs sFs hm hm' ∧ hm'.2 = hm.2 := by
  obtain ⟨v, h', e1, e2, e3⟩ := c_search hT I (t := (t : Int)) (most := 300) (by omega) (by omega)
  have k := ev_det e (show Ev 8 194 (0, [some (.ref 223), some (.int (Int32.ofNat t)), some (.int (Int32.ofInt 300)), none, none], [], hm, fl_tot) _ from by
    have := e1 8 (Nat.le_refl _)
    rw [rv31] at this
    exact this)
  exact ⟨_, h', k, e2.1, I.fr e3.1 rfl, e3.1, e2.2.1⟩
theorem jw_step {g h hm : Hp} {st t d1 d2 : Nat} {rx rm : Option Value × Hp × Nat} (G : GS g) (R : RR g h hm st) (I : RI hm) (tol : h.1 208 6 = hm.1 223 14) (ht : t < qt g) (e : Ev d1 106 (0, [some (.ref 212), some (.int (Int32.ofNat t)), some (.int (Int32.ofInt 300))], [], h, fl_tot) rx) (em : Ev d2 194 (0, [some (.ref 223), some (.int (Int32.ofNat t)), some (.int (Int32.ofInt 300)), none, none], [], hm, fl_tot) rm) : ∃ (v : Int32) (h' hm' : Hp), rx = (some (.int v), h', fl_tot) ∧ rm = (some (.int v), hm', fl_tot) ∧ FJ h h' ∧ (v.toInt = -1 ∨ v.toInt = 0 ∨ v.toInt = 1 ∨ v.toInt = -5) ∧ RR g h' hm' st ∧ RI hm' ∧ Fq sKs sFs hm hm' ∧ hm'.2 = hm.2 ∧ h'.1 208 6 = hm'.1 223 14 := by
  have t6 : t < 6 := by have := G.1.1; omega
  obtain ⟨v, h', hm', w1, w2, F1, F2, bv, -, -⟩ := judge_both G R I tol ht (by decide) e em
  obtain ⟨v2, hm2, w3, T2, I2, F3, q2⟩ := z_srch R.1.2.2.2.2 I t6 em
  rw [w2] at w3
  obtain ⟨-, e2, -⟩ := tri w3
  subst e2
  refine ⟨v, h', hm', w1, w2, F1, bv, RR.out3 G R (SH.fj F1.2 R.1.1.1) (by rw [q2]; exact R.1.2.1.1) (fun r j _ n => F1.1 r j (by omega)) (fun r j _ _ => F1.2 r j (by omega) (by omega)) (fun K j kk => F2.1 K j (by omega) (by omega)) T2, I2, F3, q2, ?_⟩
  rw [F1.1 208 6 (by omega), F2.1 223 14 (by omega) (by omega)]
  exact tol
/-- the reference goes on when a misfit was found -/
theorem jw_bad {g : Hp} (G : GS g) {k : Int32} : ∀ (n t : Nat) (bd o' : Int32) (hm : Hp) (o5 : Option Value) {d : Nat} {r : Option Value × Hp × Nat}, qt g - t < n → t ≤ qt g → bd.toInt ≠ 0 → SH hm.2 → TInv hm → RI hm → hm.1 223 0 = g.1 223 0 → Ev d 209 (28, [some (.ref 223), some (.int k), some (.int bd), some (.int o'), some (.int (Int32.ofNat t)), o5], [], hm, fl_tot) r → ∃ (bd2 q' t2 : Int32) (o5' : Option Value) (hm' : Hp), Ev d 209 (84, [some (.ref 223), some (.int k), some (.int bd2), some (.int q'), some (.int t2), o5'], [], hm', fl_tot) r ∧ bd2.toInt ≠ 0 ∧ Fq sKs sFs hm hm' ∧ hm'.2 = hm.2 ∧ TInv hm' := by
  intro n
  induction n with
  | zero => intro t bd o' hm o5 d r h1; omega
  | succ n ih =>
    intro t bd o' hm o5 d r h1 h2 hb S T I e0 e
    have et : (Int32.ofNat t).toInt = t := i32n (by have := G.1.1; omega)
    have eq0 : (hm.1 223 0).toInt = qt g := by rw [e0, G.1.2.1]
    rcases zw_l S e with ⟨-, e⟩ | ⟨q, e⟩
    · exact ⟨bd, o', _, o5, hm, e, hb, Fq.refl hm, rfl, T⟩
    · have tq : t < qt g := by omega
      have t6 : t < 6 := by have := G.1.1; omega
      obtain ⟨d3, v3, h3, n3, z3, ec3, e⟩ := b_call (m2 := 194) (k := 2) (nL := 5) (as := [.ref 223, .int (Int32.ofNat t), .int (Int32.ofInt 300)]) (rest := []) (L := [some (.ref 223), some (.int (Int32.ofNat t)), some (.int (Int32.ofInt 300)), none, none]) e (show fl_code 209 43 = some (18, [((194 : Nat) : Int), ((2 : Nat) : Int)], 46) by decide +kernel) rfl (by decide +kernel) rfl rfl rfl
      obtain ⟨v, hm', w, T', I', F, q2⟩ := z_srch T I t6 ec3
      obtain ⟨w1, w2, w3⟩ := tri w
      rw [w1, w2, w3] at e
      have e : Ev d 209 (46, [some (.ref 223), some (.int k), some (.int bd), some (.int o'), some (.int (Int32.ofNat t)), o5], [.int v], hm', fl_tot) r := e
      have S' : SH hm'.2 := by rw [q2]; exact S
      have e0' : hm'.1 223 0 = g.1 223 0 := by rw [F.fc 0 (by decide)]; exact e0
      have on : ∀ {x y : Int32} {z : Option Value}, x.toInt ≠ 0 → Ev d 209 (28, [some (.ref 223), some (.int k), some (.int x), some (.int y), some (.int (Int32.ofNat t + Int32.ofInt 1)), z], [], hm', fl_tot) r → ∃ (bd2 q' t2 : Int32) (o5' : Option Value) (hm' : Hp), Ev d 209 (84, [some (.ref 223), some (.int k), some (.int bd2), some (.int q'), some (.int t2), o5'], [], hm', fl_tot) r ∧ bd2.toInt ≠ 0 ∧ Fq sKs sFs hm hm' ∧ hm'.2 = hm.2 ∧ TInv hm' := fun {x y z} hx e => by
        rw [o32 (by omega)] at e
        obtain ⟨a1, a2, a3, a4, a5, b1, b2, b3, b4, b5⟩ := ih (t + 1) x y hm' z (by omega) (by omega) hx S' T' I' e0' e
        exact ⟨a1, a2, a3, a4, a5, b1, b2, F.trans b3, b4.trans q2, b5⟩
      rcases zw_i S' e with ⟨-, -, e⟩ | ⟨-, -, -, e⟩ | ⟨-, -, -, e⟩ | ⟨y, -⟩ | ⟨y, -⟩ | ⟨y, -⟩ | ⟨y, -⟩ | ⟨y, -⟩
      · exact on (by decide) e
      · exact on (by decide) e
      · exact on (by decide) e
      all_goals exact absurd y hb
/-- the loops over the trays -/
theorem jw_l {g : Hp} (G : GS g) {k : Int32} {st : Nat} : ∀ (n t : Nat) (o o' : Int32) (h hm : Hp) (o4 o5 : Option Value) {d d2 : Nat} {r r2 : Option Value × Hp × Nat}, qt g - t < n → t ≤ qt g → (o.toInt ≠ 0 ↔ o'.toInt ≠ 0) → RR g h hm st → RI hm → h.1 208 6 = hm.1 223 14 → Ev d 131 (26, [some (.ref 218), some (.int (Int32.ofInt 0)), some (.int o), some (.int (Int32.ofNat t)), o4], [], h, fl_tot) r → Ev d2 209 (28, [some (.ref 223), some (.int k), some (.int (Int32.ofInt 0)), some (.int o'), some (.int (Int32.ofNat t)), o5], [], hm, fl_tot) r2 → ∃ (mi bd q q' t1 t2 : Int32) (h' hm' : Hp) (o4' o5' : Option Value), Ev d 131 (78, [some (.ref 218), some (.int mi), some (.int q), some (.int t1), o4'], [], h', fl_tot) r ∧ Ev d2 209 (84, [some (.ref 223), some (.int k), some (.int bd), some (.int q'), some (.int t2), o5'], [], hm', fl_tot) r2 ∧ (mi.toInt ≠ 0 ↔ bd.toInt ≠ 0) ∧ (mi.toInt = 0 → (q.toInt ≠ 0 ↔ q'.toInt ≠ 0)) ∧ FJ h h' ∧ Fq sKs sFs hm hm' ∧ hm'.2 = hm.2 ∧ TInv hm' := by
  intro n
  induction n with
  | zero => intro t o o' h hm o4 o5 d d2 r r2 h1; omega
  | succ n ih =>
    intro t o o' h hm o4 o5 d d2 r r2 h1 h2 ho R I tol e e2
    have q6 := G.1.1
    have et : (Int32.ofNat t).toInt = t := i32n (by omega)
    have S := R.1.1.1
    have Sm := R.1.2.1.1
    have c1 : (h.1 1 2).toInt = qt g := by rw [R.1.1.2.1.1, G.1.2.1]
    have c2 : (hm.1 223 0).toInt = qt g := by rw [R.1.2.1.2.1, G.1.2.1]
    have i0 : (Int32.ofInt 0).toInt = 0 := by decide
    have i1 : (Int32.ofInt 1).toInt = 1 := by decide
    rcases yj_l S e with ⟨q, e⟩ | ⟨-, q, -⟩ | ⟨q, -, e⟩
    · rcases zw_l Sm e2 with ⟨-, e2⟩ | ⟨y, -⟩
      · exact ⟨_, _, o, o', _, _, h, hm, o4, o5, e, e2, by rw [i0], fun _ => ho, FJ.refl h, Fq.refl hm, rfl, R.1.2.2.2.2⟩
      · omega
    · exact absurd i0 q
    · rcases zw_l Sm e2 with ⟨y, -⟩ | ⟨-, e2⟩
      · omega
      · have tq : t < qt g := by omega
        obtain ⟨d3, v3, h3, n3, z3, ec3, e⟩ := b_call (m2 := 106) (k := 2) (nL := 3) (as := [.ref 212, .int (Int32.ofNat t), .int (Int32.ofInt 300)]) (rest := []) (L := [some (.ref 212), some (.int (Int32.ofNat t)), some (.int (Int32.ofInt 300))]) e (show fl_code 131 49 = some (18, [((106 : Nat) : Int), ((2 : Nat) : Int)], 52) by decide +kernel) rfl (by decide +kernel) rfl rfl rfl
        obtain ⟨d4, v4, h4, n4, z4, ec4, e2⟩ := b_call (m2 := 194) (k := 2) (nL := 5) (as := [.ref 223, .int (Int32.ofNat t), .int (Int32.ofInt 300)]) (rest := []) (L := [some (.ref 223), some (.int (Int32.ofNat t)), some (.int (Int32.ofInt 300)), none, none]) e2 (show fl_code 209 43 = some (18, [((194 : Nat) : Int), ((2 : Nat) : Int)], 46) by decide +kernel) rfl (by decide +kernel) rfl rfl rfl
        obtain ⟨v, h', hm', w1, w2, F1, bv, R', I', F2, q2, tol'⟩ := jw_step G R I tol tq ec3 ec4
        obtain ⟨x1, x2, x3⟩ := tri w1
        rw [x1, x2, x3] at e
        obtain ⟨x1, x2, x3⟩ := tri w2
        rw [x1, x2, x3] at e2
        have e : Ev d 131 (52, [some (.ref 218), some (.int (Int32.ofInt 0)), some (.int o), some (.int (Int32.ofNat t)), o4], [.int v], h', fl_tot) r := e
        have e2 : Ev d2 209 (46, [some (.ref 223), some (.int k), some (.int (Int32.ofInt 0)), some (.int o'), some (.int (Int32.ofNat t)), o5], [.int v], hm', fl_tot) r2 := e2
        have S' := R'.1.1.1
        have Sm' := R'.1.2.1.1
        have on : ∀ {x y : Int32} {z z' : Option Value}, (x.toInt ≠ 0 ↔ y.toInt ≠ 0) → Ev d 131 (26, [some (.ref 218), some (.int (Int32.ofInt 0)), some (.int x), some (.int (Int32.ofNat t + Int32.ofInt 1)), z], [], h', fl_tot) r → Ev d2 209 (28, [some (.ref 223), some (.int k), some (.int (Int32.ofInt 0)), some (.int y), some (.int (Int32.ofNat t + Int32.ofInt 1)), z'], [], hm', fl_tot) r2 → ∃ (mi bd q q' t1 t2 : Int32) (h' hm' : Hp) (o4' o5' : Option Value), Ev d 131 (78, [some (.ref 218), some (.int mi), some (.int q), some (.int t1), o4'], [], h', fl_tot) r ∧ Ev d2 209 (84, [some (.ref 223), some (.int k), some (.int bd), some (.int q'), some (.int t2), o5'], [], hm', fl_tot) r2 ∧ (mi.toInt ≠ 0 ↔ bd.toInt ≠ 0) ∧ (mi.toInt = 0 → (q.toInt ≠ 0 ↔ q'.toInt ≠ 0)) ∧ FJ h h' ∧ Fq sKs sFs hm hm' ∧ hm'.2 = hm.2 ∧ TInv hm' := fun {x y z z'} hx e e2 => by
          rw [o32 (by omega)] at e e2
          obtain ⟨a1, a2, a3, a4, a5, a6, a7, a8, a9, a10, b1, b2, b3, b4, b5, b6, b7, b8⟩ := ih (t + 1) x y h' hm' z z' (by omega) (by omega) hx R' I' tol' e e2
          exact ⟨a1, a2, a3, a4, a5, a6, a7, a8, a9, a10, b1, b2, b3, b4, F1.trans b5, F2.trans b6, b7.trans q2, b8⟩
        have eone : (Int32.ofInt 1).toInt ≠ 0 := by decide
        rcases yj_i S' e with ⟨v0, v1, e⟩ | ⟨v0, v1, e⟩ | ⟨v0, e⟩
        · -- it fits
          rcases zw_i Sm' e2 with ⟨y, -⟩ | ⟨y, -⟩ | ⟨y, -⟩ | ⟨-, -, y, e2⟩ | ⟨-, -, y, -, e2⟩ | ⟨-, -, -, y, -⟩ | ⟨-, y, -⟩ | ⟨-, y, -⟩
          · exact absurd i0 y
          · exact absurd i0 y
          · exact absurd i0 y
          · exact on (iff_of_true (ho.mpr y) eone) e e2
          · exact on (iff_of_false (fun z => (ho.mp z) y) (fun z => z i0)) e e2
          · omega
          · omega
          · omega
        · -- open
          rcases zw_i Sm' e2 with ⟨y, -⟩ | ⟨y, -⟩ | ⟨y, -⟩ | ⟨-, -, -, e2⟩ | ⟨-, -, -, y, -⟩ | ⟨-, -, -, -, e2⟩ | ⟨-, y, -⟩ | ⟨-, y, -⟩
          · exact absurd i0 y
          · exact absurd i0 y
          · exact absurd i0 y
          · exact on Iff.rfl e e2
          · omega
          · exact on Iff.rfl e e2
          · omega
          · omega
        · -- a misfit
          have sx : (Int32.ofNat t + Int32.ofInt 1) = Int32.ofNat (t + 1) := o32 (by omega)
          have key : ∀ {y : Int32} {z' : Option Value}, Ev d2 209 (28, [some (.ref 223), some (.int k), some (.int (Int32.ofInt 1)), some (.int y), some (.int (Int32.ofNat t + Int32.ofInt 1)), z'], [], hm', fl_tot) r2 → ∃ (mi bd q q' t1 t2 : Int32) (h' hm' : Hp) (o4' o5' : Option Value), Ev d 131 (78, [some (.ref 218), some (.int mi), some (.int q), some (.int t1), o4'], [], h', fl_tot) r ∧ Ev d2 209 (84, [some (.ref 223), some (.int k), some (.int bd), some (.int q'), some (.int t2), o5'], [], hm', fl_tot) r2 ∧ (mi.toInt ≠ 0 ↔ bd.toInt ≠ 0) ∧ (mi.toInt = 0 → (q.toInt ≠ 0 ↔ q'.toInt ≠ 0)) ∧ FJ h h' ∧ Fq sKs sFs hm hm' ∧ hm'.2 = hm.2 ∧ TInv hm' := fun {y z'} e2 => by
            rw [sx] at e2
            obtain ⟨bd2, q', t2, o5', hm2, b1, b2, b3, b4, b5⟩ := jw_bad G (n := n) (t + 1) (Int32.ofInt 1) y hm' z' (by omega) (by omega) eone Sm' R'.1.2.2.2.2 I' R'.1.2.1.2.1 e2
            have fin : ∀ {t1 : Int32}, Ev d 131 (78, [some (.ref 218), some (.int (Int32.ofInt 1)), some (.int o), some (.int t1), some (.int v)], [], h', fl_tot) r → ∃ (mi bd q q' t1 t2 : Int32) (h' hm' : Hp) (o4' o5' : Option Value), Ev d 131 (78, [some (.ref 218), some (.int mi), some (.int q), some (.int t1), o4'], [], h', fl_tot) r ∧ Ev d2 209 (84, [some (.ref 223), some (.int k), some (.int bd), some (.int q'), some (.int t2), o5'], [], hm', fl_tot) r2 ∧ (mi.toInt ≠ 0 ↔ bd.toInt ≠ 0) ∧ (mi.toInt = 0 → (q.toInt ≠ 0 ↔ q'.toInt ≠ 0)) ∧ FJ h h' ∧ Fq sKs sFs hm hm' ∧ hm'.2 = hm.2 ∧ TInv hm' := fun {t1} e => ⟨_, bd2, o, q', t1, t2, h', hm2, _, o5', e, b1, iff_of_true eone b2, fun z => absurd z eone, F1, F2.trans b3, b4.trans q2, b5⟩
            rcases yj_l S' e with ⟨-, e⟩ | ⟨-, -, e⟩ | ⟨-, y, -⟩
            · exact fin e
            · exact fin e
            · exact absurd y eone
          rcases zw_i Sm' e2 with ⟨y, -⟩ | ⟨y, -⟩ | ⟨y, -⟩ | ⟨-, y, -⟩ | ⟨-, y, -⟩ | ⟨-, y, -⟩ | ⟨-, -, -, e2⟩ | ⟨-, -, -, -, e2⟩
          · exact absurd i0 y
          · exact absurd i0 y
          · exact absurd i0 y
          · exact absurd v0 y
          · exact absurd v0 y
          · exact absurd v0 y
          · exact key e2
          · exact key e2
