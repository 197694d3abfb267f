
set_option maxRecDepth 20000
/-! WHAT EXPLORE HAS FOUND -/
def RW (g h hm : Hp) (i s : Nat) : Prop := ∀ c j : Nat, c < qc g → j < qm g c → h.1 221 (80 * i + 2 * (psm g c + j)) = hm.1 284 (80 * s + 2 * (8 * c + j) + 1) ∧ h.1 221 (80 * i + 2 * (psm g c + j) + 1) = hm.1 284 (80 * s + 2 * (8 * c + j))
def FND (g : Hp) (k : Nat) (h hm : Hp) : Prop := (h.1 220 1 = hm.1 273 1 ∧ h.1 220 2 = hm.1 273 2 ∧ h.1 220 3 = hm.1 273 3) ∧ ∃ m : Nat, m ≤ k ∧ h.1 218 6 = Int32.ofNat m ∧ hm.1 273 4 = Int32.ofNat m ∧ (∀ s : Nat, s < k → ∃ i : Nat, i < m ∧ RW g h hm i s) ∧ (∀ i : Nat, i < m → ∃ s : Nat, s < k ∧ RW g h hm i s) ∧ ∀ s c j : Nat, s < k → c < 5 → j < 8 → ¬ (c < qc g ∧ j < qm g c) → hm.1 284 (80 * s + 2 * (8 * c + j)) = Int32.ofInt 0 ∧ hm.1 284 (80 * s + 2 * (8 * c + j) + 1) = Int32.ofInt 6
theorem FND.fr {g h hm h' hm' : Hp} {k : Nat} (F : FND g k h hm) (x : ∀ j : Nat, h'.1 221 j = h.1 221 j) (x1 : h'.1 220 1 = h.1 220 1 ∧ h'.1 220 2 = h.1 220 2 ∧ h'.1 220 3 = h.1 220 3) (x6 : h'.1 218 6 = h.1 218 6) (y : ∀ j : Nat, hm'.1 284 j = hm.1 284 j) (y1 : ∀ j : Nat, hm'.1 273 j = hm.1 273 j) : FND g k h' hm' := by
  obtain ⟨⟨a1, a2, a3⟩, m, b1, b2, b3, b4, b5, b6⟩ := F
  have rw' : ∀ {i s : Nat}, RW g h hm i s → RW g h' hm' i s := fun w c j hc hj => by rw [x, x, y, y]; exact w c j hc hj
  refine ⟨⟨by rw [x1.1, y1]; exact a1, by rw [x1.2.1, y1]; exact a2, by rw [x1.2.2, y1]; exact a3⟩, m, b1, by rw [x6]; exact b2, by rw [y1]; exact b3, fun s hs => ?_, fun i hi => ?_, fun s c j hs hc hj n => by rw [y, y]; exact b6 s c j hs hc hj n⟩
  · obtain ⟨i, hi, w⟩ := b4 s hs
    exact ⟨i, hi, rw' w⟩
  · obtain ⟨s, hs, w⟩ := b5 i hi
    exact ⟨s, hs, rw' w⟩
theorem i_add0 (a : Int32) : a + Int32.ofInt 0 = a := by
  rw [show Int32.ofInt 0 = 0 by decide]
  exact Int32.add_zero a
/-- the ends of judging -/
theorem jw_end {g h hm h1 : Hp} {st k d1 d3 : Nat} {rm : Option Value × Hp × Nat} (G : GS g) (R : RR g h hm st) (I : RI hm) (tol : h.1 208 6 = hm.1 223 14) (f1 : h.1 220 1 = hm.1 273 1) (f2 : h.1 220 2 = hm.1 273 2) (f3 : h.1 220 3 = hm.1 273 3) (e1 : Ev d1 131 (0, [some (.ref 218), none, none, none, none], [], h, fl_tot) (none, h1, fl_tot)) (em : Ev d3 209 (0, [some (.ref 223), some (.int (Int32.ofNat k)), none, none, none, none], [], hm, fl_tot) rm) : ∃ (bd q' : Int32) (o5 : Option Value) (hb : Hp), Ev d3 209 (127, [some (.ref 223), some (.int (Int32.ofNat k)), some (.int bd), some (.int q'), some (.int (Int32.ofNat 0)), o5], [], hb, fl_tot) rm ∧ (∀ r j : Nat, ¬ (r = 220 ∧ (j = 1 ∨ j = 2 ∨ j = 3)) → ¬ (212 ≤ r ∧ r ≤ 217) → h1.1 r j = h.1 r j) ∧ SH h1.2 ∧ (∀ K j : Nat, ¬ (K = 273 ∧ (j = 1 ∨ j = 2 ∨ j = 3)) → ¬ (274 ≤ K ∧ K ≤ 281) → 224 ≤ K → K < 285 → hb.1 K j = hm.1 K j) ∧ SH hb.2 ∧ (h1.1 220 1 = hb.1 273 1 ∧ h1.1 220 2 = hb.1 273 2 ∧ h1.1 220 3 = hb.1 273 3) := by
  have S := R.1.1.1
  have Sm := R.1.2.1.1
  have Tm := R.1.2.2.2.2
  have z0 : Int32.ofInt 0 = Int32.ofNat 0 := by decide
  -- how the run ended
  obtain ⟨ha, hma, e1, em, xa, xa2, ya, ya2, fa, Ta⟩ : ∃ ha hma : Hp, Ev d1 131 (26, [some (.ref 218), some (.int (Int32.ofInt 0)), some (.int (Int32.ofInt 0)), some (.int (Int32.ofNat 0)), none], [], ha, fl_tot) (none, h1, fl_tot) ∧ Ev d3 209 (28, [some (.ref 223), some (.int (Int32.ofNat k)), some (.int (Int32.ofInt 0)), some (.int (Int32.ofInt 0)), some (.int (Int32.ofNat 0)), none], [], hma, fl_tot) rm ∧ (∀ r j : Nat, ¬ (r = 220 ∧ j = 1) → ha.1 r j = h.1 r j) ∧ ha.2 = h.2 ∧ (∀ r j : Nat, ¬ (r = 273 ∧ j = 1) → hma.1 r j = hm.1 r j) ∧ hma.2 = hm.2 ∧ ha.1 220 1 = hma.1 273 1 ∧ TInv hma := by
    rw [← z0]
    rcases yj_0 S e1 with ⟨q, e1⟩ | ⟨q, e1⟩
    · rw [tol] at q
      rcases zw_0 Sm em with ⟨-, em⟩ | ⟨y, -⟩
      · exact ⟨h, _, e1, em, fun _ _ _ => rfl, rfl, fun r j z => setI_no z, rfl, by rw [setI_at, i_add0]; exact f1, Tm.full 273 1 _ (by decide +kernel) (by decide +kernel)⟩
      · exact absurd q y
    · rw [tol] at q
      rcases zw_0 Sm em with ⟨y, -⟩ | ⟨-, em⟩
      · exact absurd y q
      · exact ⟨_, _, e1, em, fun r j z => setI_no z, rfl, fun r j z => setI_no z, rfl, by rw [setI_at, setI_at, f1], Tm.full 273 1 _ (by decide +kernel) (by decide +kernel)⟩
  have Ra : RR g ha hma st := RR.out3 G R (by rw [xa2]; exact S) (by rw [ya2]; exact Sm) (fun r j _ n => xa r j (by omega)) (fun r j _ _ => by rw [xa2]) (fun K j kk => ya K j (by omega)) Ta
  have Ia : RI hma := I.fr (Ks := [81]) (fs := []) (Fq.cells (fun K j z1 z2 z3 => ya _ _ (by
    simp only [List.mem_cons, List.not_mem_nil, or_false] at z3
    omega)) (fun k' _ => ya _ _ (by omega))) rfl
  obtain ⟨mi, bd, q, q', t1, t2, h', hm', o4', o5', e1, em, b1, b2, FJ1, FM, F2, Tm'⟩ := jw_l G (qt g + 1) 0 (Int32.ofInt 0) (Int32.ofInt 0) ha hma none none (by omega) (by omega) Iff.rfl Ra Ia (by rw [xa _ _ (by omega), ya _ _ (by omega)]; exact tol) e1 em
  have S' : SH h'.2 := SH.fj FJ1.2 Ra.1.1.1
  have Sm' : SH hm'.2 := by rw [F2]; exact Ra.1.2.1.1
  have x' : ∀ r j : Nat, ¬ (r = 220 ∧ j = 1) → ¬ (212 ≤ r ∧ r ≤ 217) → h'.1 r j = h.1 r j := fun r j z1 z2 => by rw [FJ1.1 r j z2, xa r j z1]
  have c' : ∀ K j : Nat, ¬ (274 ≤ K ∧ K ≤ 281) → 224 ≤ K → K < 285 → hm'.1 K j = hma.1 K j := fun K j z1 z2 z3 => by
    have := FM.c (K := K - 192) (by omega) (by omega) (fun z => by
      simp only [sKs, List.mem_cons, List.not_mem_nil, or_false] at z
      omega) j
    rw [show 192 + (K - 192) = K by omega] at this
    exact this
  have y' : ∀ K j : Nat, ¬ (K = 273 ∧ j = 1) → ¬ (274 ≤ K ∧ K ≤ 281) → 224 ≤ K → K < 285 → hm'.1 K j = hm.1 K j := fun K j z1 z2 z3 z4 => by rw [c' K j z2 z3 z4, ya K j z1]
  have g1 : h'.1 220 1 = hm'.1 273 1 := by rw [FJ1.1 _ _ (by omega), c' _ _ (by omega) (by omega) (by omega)]; exact fa
  have g2 : h'.1 220 2 = hm'.1 273 2 := by rw [x' _ _ (by omega) (by omega), y' _ _ (by omega) (by omega) (by omega) (by omega)]; exact f2
  have g3 : h'.1 220 3 = hm'.1 273 3 := by rw [x' _ _ (by omega) (by omega), y' _ _ (by omega) (by omega) (by omega) (by omega)]; exact f3
  have eh : ∀ {z : Hp}, ((none : Option Value), h1, fl_tot) = (none, z, fl_tot) → h1 = z := fun w => (tri w).2.1
  rw [← z0]
  rcases yj_e S' e1 with ⟨m0, q0, w⟩ | ⟨m0, q0, w⟩ | ⟨m0, w⟩
  · have w := eh w
    have q0' : q'.toInt = 0 := by
      by_cases z : q'.toInt = 0
      · exact z
      · exact absurd q0 ((b2 m0).mpr z)
    have d0 : bd.toInt = 0 := by
      by_cases z : bd.toInt = 0
      · exact z
      · exact absurd m0 (b1.mpr z)
    rcases zw_e Sm' em with ⟨-, -, em⟩ | ⟨-, y, -⟩ | ⟨y, -⟩ | ⟨y, -⟩
    · refine ⟨bd, q', o5', _, em, fun r j z1 z2 => by rw [w]; exact x' r j (by omega) z2, by rw [w]; exact S', fun K j z1 z2 z3 z4 => by rw [setI_no (by omega), setI_no (by omega)]; exact y' K j (by omega) z2 z3 z4, Sm', ?_, ?_, ?_⟩
      · rw [w, setI_no (by omega), setI_no (by omega)]; exact g1
      · rw [w, setI_no (by omega), setI_at, i_add0]; exact g2
      · rw [w, setI_at, i_add0]; exact g3
    · exact absurd q0' y
    · exact absurd d0 y
    · exact absurd d0 y
  · have w := eh w
    have q0' : q'.toInt ≠ 0 := (b2 m0).mp q0
    have d0 : bd.toInt = 0 := by
      by_cases z : bd.toInt = 0
      · exact z
      · exact absurd m0 (b1.mpr z)
    rcases zw_e Sm' em with ⟨-, y, -⟩ | ⟨-, -, -, em⟩ | ⟨y, -⟩ | ⟨y, -⟩
    · exact absurd y q0'
    · refine ⟨bd, q', o5', _, em, fun r j z1 z2 => by rw [w, setI_no (by omega)]; exact x' r j (by omega) z2, by rw [w]; exact S', fun K j z1 z2 z3 z4 => by rw [setI_no (by omega), setI_no (by omega)]; exact y' K j (by omega) z2 z3 z4, Sm', ?_, ?_, ?_⟩
      · rw [w, setI_no (by omega), setI_no (by omega), setI_no (by omega)]; exact g1
      · rw [w, setI_no (by omega), setI_no (by omega), setI_at, i_add0]; exact g2
      · rw [w, setI_at, setI_at, g3]
    · exact absurd d0 y
    · exact absurd d0 y
  · have w := eh w
    have d0 : bd.toInt ≠ 0 := b1.mp m0
    have fin : Ev d3 209 (127, [some (.ref 223), some (.int (Int32.ofNat k)), some (.int bd), some (.int q'), some (.int (Int32.ofInt 0)), o5'], [], fl_setI (fl_setI hm' 273 2 (hm'.1 273 2 + Int32.ofInt 1)) 273 3 (hm'.1 273 3 + Int32.ofInt 0), fl_tot) rm → ∃ (bd q' : Int32) (o5 : Option Value) (hb : Hp), Ev d3 209 (127, [some (.ref 223), some (.int (Int32.ofNat k)), some (.int bd), some (.int q'), some (.int (Int32.ofInt 0)), o5], [], hb, fl_tot) rm ∧ (∀ r j : Nat, ¬ (r = 220 ∧ (j = 1 ∨ j = 2 ∨ j = 3)) → ¬ (212 ≤ r ∧ r ≤ 217) → h1.1 r j = h.1 r j) ∧ SH h1.2 ∧ (∀ K j : Nat, ¬ (K = 273 ∧ (j = 1 ∨ j = 2 ∨ j = 3)) → ¬ (274 ≤ K ∧ K ≤ 281) → 224 ≤ K → K < 285 → hb.1 K j = hm.1 K j) ∧ SH hb.2 ∧ (h1.1 220 1 = hb.1 273 1 ∧ h1.1 220 2 = hb.1 273 2 ∧ h1.1 220 3 = hb.1 273 3) := fun em => by
      refine ⟨bd, q', o5', _, em, fun r j z1 z2 => by rw [w, setI_no (by omega)]; exact x' r j (by omega) z2, by rw [w]; exact S', fun K j z1 z2 z3 z4 => by rw [setI_no (by omega), setI_no (by omega)]; exact y' K j (by omega) z2 z3 z4, Sm', ?_, ?_, ?_⟩
      · rw [w, setI_no (by omega), setI_no (by omega), setI_no (by omega)]; exact g1
      · rw [w, setI_at, setI_no (by omega), setI_at, g2]
      · rw [w, setI_no (by omega), setI_at, i_add0]; exact g3
    rcases zw_e Sm' em with ⟨y, -⟩ | ⟨y, -⟩ | ⟨-, -, em⟩ | ⟨-, -, -, em⟩
    · exact absurd y d0
    · exact absurd y d0
    · exact fin em
    · exact fin em
/-- one run judged and seen, on both sides -/
theorem weigh_both {g h hm h1 h2 hw : Hp} {st k d1 d2 d3 : Nat} (G : GS g) (R : RR g h hm st) (I : RI hm) (tol : h.1 208 6 = hm.1 223 14) (IV : IVD g hm) (hk : k ≤ 59) (F : FND g k h hm) (e1 : Ev d1 131 (0, [some (.ref 218), none, none, none, none], [], h, fl_tot) (none, h1, fl_tot)) (e2 : Ev d2 132 (0, [some (.ref 218), none, none, none, none, none], [], h1, fl_tot) (none, h2, fl_tot)) (em : Ev d3 209 (0, [some (.ref 223), some (.int (Int32.ofNat k)), none, none, none, none], [], hm, fl_tot) (none, hw, fl_tot)) : FND g (k + 1) h2 hw := by
  obtain ⟨⟨f1, f2, f3⟩, m, mk, f4, f5, f6, f7, f8⟩ := F
  obtain ⟨bd, q', o5, hb, em, x1, S1, y1, Sb, gA, gB, gC⟩ := jw_end G R I tol f1 f2 f3 e1 em
  have q5 := G.1.2.2.1
  have z0 : Int32.ofInt 0 = Int32.ofNat 0 := by decide
  have z1 : (Int32.ofInt 1).toInt ≠ 0 := by decide
  have pq := psm_le G (qc g) (Nat.le_refl _)
  -- the reference's row
  obtain ⟨hc, em, c1, c2, c3⟩ := zw_rows hk 41 0 hb o5 (by omega) (by omega) Sb em
  have Sc : SH hc.2 := by rw [c2]; exact Sb
  -- the class's row
  have m6 : h1.1 218 6 = Int32.ofNat m := by rw [x1 _ _ (by omega) (by omega)]; exact f4
  have mul : (Int32.ofNat m * Int32.ofInt 2) * Int32.ofInt 40 = Int32.ofNat (80 * m) := by
    rw [show 80 * m = (m * 2) * 40 by omega, Int32.ofNat_mul, Int32.ofNat_mul]
    rfl
  have W := yk_0 S1 e2
  rw [m6, mul, show Int32.ofNat (80 * m) + Int32.ofInt 80 = Int32.ofNat (80 * m + 80) from by rw [Int32.ofNat_add]; rfl, show fl_len h1 221 = 4800 from rfl, i32n (n := 80 * m + 80) (by omega), i32n (n := 4800) (by omega)] at W
  have e2 : Ev d2 132 (27, [some (.ref 218), some (.int (Int32.ofNat (80 * m))), some (.int (Int32.ofNat (80 * m + 2 * psm g 0))), some (.int (Int32.ofNat 0)), none, none], [], h1, fl_tot) (none, h2, fl_tot) := by
    rw [show psm g 0 = 0 from rfl, Nat.mul_zero, Nat.add_zero, ← z0]
    rcases W with ⟨-, e⟩ | ⟨y, -⟩
    · exact e
    · omega
  have lo1 : ∀ a j : Nat, ¬ (210 ≤ a ∧ a < 223) → h1.1 a j = h.1 a j := fun a j z => x1 a j (by omega) (by omega)
  obtain ⟨hd, o4', o5', e2, d1', d2', d3'⟩ := yk_out G (m := m) (by omega) (qc g + 1) 0 h1 none none (by omega) (by omega) S1 (by rw [lo1 _ _ (by omega), R.1.1.2.1.2]; exact G.1.2.2.2) (fun c hc' => by
    have c5 := G.c5 hc'
    rw [lo1 _ _ (by omega), (R.1.1.2.2.2.2.1 c hc').1]
    exact (G.2.2 c hc').1) e2
  have Sd : SH hd.2 := by rw [d2']; exact S1
  have p0 : psm g 0 = 0 := rfl
  -- the answers are alike
  have out : ∀ c j : Nat, c < qc g → j < qm g c → h.1 (152 + 12 * c + j) 15 = hm.1 239 (8 * c + j) ∧ h.1 (152 + 12 * c + j) 16 = hm.1 238 (8 * c + j) := fun c j hc' hj => by
    obtain ⟨i, CK, -⟩ := R.2.2 c hc'
    exact (CK.2.1 j hj).1.1
  have rowD : ∀ c j : Nat, c < qc g → j < qm g c → hd.1 221 (80 * m + 2 * (psm g c + j)) = hm.1 239 (8 * c + j) ∧ hd.1 221 (80 * m + 2 * (psm g c + j) + 1) = hm.1 238 (8 * c + j) := fun c j hc' hj => by
    have c5 := G.c5 hc'
    have i8 := G.i8 hc' hj
    obtain ⟨u1, u2⟩ := d3' c j (by omega) hc' hj
    obtain ⟨v1, v2⟩ := out c j hc' hj
    rw [u1, u2, lo1 _ _ (by omega), lo1 _ _ (by omega)]
    exact ⟨v1, v2⟩
  have rowC : ∀ x : Nat, x < 40 → hc.1 284 (80 * k + 2 * x) = hm.1 238 x ∧ hc.1 284 (80 * k + 2 * x + 1) = hm.1 239 x := fun x hx => by
    obtain ⟨u1, u2⟩ := c3 x (by omega) hx
    rw [u1, u2, y1 _ _ (by omega) (by omega) (by omega) (by omega), y1 _ _ (by omega) (by omega) (by omega) (by omega)]
    exact ⟨rfl, rfl⟩
  have oldD : ∀ j : Nat, j < 80 * m → hd.1 221 j = h.1 221 j := fun j hj => by rw [d1' _ _ (by omega), x1 _ _ (by omega) (by omega)]
  have oldC : ∀ j : Nat, j < 80 * k → hc.1 284 j = hm.1 284 j := fun j hj => by rw [c1 _ _ (by omega), y1 _ _ (by omega) (by omega) (by omega) (by omega)]
  have ps : ∀ c j : Nat, c < qc g → j < qm g c → psm g c + j < 40 := fun c j hc' hj => by
    have := psm_lt hc' hj
    omega
  have oldW : ∀ i s : Nat, i < m → s < k → RW g h hm i s → RW g hd hc i s := fun i s hi hs w c j hc' hj => by
    have := ps c j hc' hj
    have i8 := G.i8 hc' hj
    have c5 := G.c5 hc'
    rw [oldD _ (by omega), oldD _ (by omega), oldC _ (by omega), oldC _ (by omega)]
    exact w c j hc' hj
  have newW : RW g hd hc m k := fun c j hc' hj => by
    have i8 := G.i8 hc' hj
    have c5 := G.c5 hc'
    obtain ⟨u1, u2⟩ := rowD c j hc' hj
    obtain ⟨v1, v2⟩ := rowC (8 * c + j) (by omega)
    rw [u1, u2, v1, v2]
    exact ⟨rfl, rfl⟩
  have split80 : ∀ p : Nat, p < 80 → ∃ c j : Nat, c < 5 ∧ j < 8 ∧ (p = 2 * (8 * c + j) ∨ p = 2 * (8 * c + j) + 1) := fun p hp => ⟨p / 16, p % 16 / 2, by omega, by omega, by omega⟩
  -- seen before on one side, seen before on the other
  have toM : ∀ y : Nat, y < m → (∀ p : Nat, p < 2 * psm g (qc g) → hd.1 221 (80 * y + p) = hd.1 221 (80 * m + p)) → ∃ s : Nat, s < k ∧ ∀ p : Nat, p < 80 → hc.1 284 (80 * k + p) = hc.1 284 (80 * s + p) := fun y hy E => by
    obtain ⟨s, hs, w⟩ := f7 y hy
    have w := oldW y s hy hs w
    refine ⟨s, hs, fun p hp => ?_⟩
    obtain ⟨c, j, c5, j8, ep⟩ := split80 p hp
    by_cases v : c < qc g ∧ j < qm g c
    · obtain ⟨w1, w2⟩ := w c j v.1 v.2
      obtain ⟨n1, n2⟩ := newW c j v.1 v.2
      have lt := psm_lt v.1 v.2
      rcases ep with rfl | rfl
      · rw [← n2, ← w2, Nat.add_assoc, ← E _ (by omega), Nat.add_assoc]
      · rw [← Nat.add_assoc, ← Nat.add_assoc, ← n1, ← w1, E _ (by omega)]
    · obtain ⟨i1, i2⟩ := IV c j c5 j8 v
      obtain ⟨b1, b2⟩ := f8 s c j hs c5 j8 v
      obtain ⟨v1, v2⟩ := rowC (8 * c + j) (by omega)
      rcases ep with rfl | rfl
      · rw [v1, i1, oldC _ (by omega), b1]
      · rw [← Nat.add_assoc, ← Nat.add_assoc, v2, i2, oldC _ (by omega), b2]
  have toX : ∀ s : Nat, s < k → (∀ p : Nat, p < 80 → hc.1 284 (80 * k + p) = hc.1 284 (80 * s + p)) → ∃ y : Nat, y < m ∧ ∀ p : Nat, p < 2 * psm g (qc g) → hd.1 221 (80 * y + p) = hd.1 221 (80 * m + p) := fun s hs E => by
    obtain ⟨y, hy, w⟩ := f6 s hs
    have w := oldW y s hy hs w
    refine ⟨y, hy, fun p hp => ?_⟩
    obtain ⟨c, j, hc', hj, ep⟩ := psm_inv (g := g) (qc g) (p / 2) (by omega)
    have i8 := G.i8 hc' hj
    have c5 := G.c5 hc'
    obtain ⟨w1, w2⟩ := w c j hc' hj
    obtain ⟨n1, n2⟩ := newW c j hc' hj
    have ep2 : p = 2 * (psm g c + j) ∨ p = 2 * (psm g c + j) + 1 := by omega
    rcases ep2 with rfl | rfl
    · rw [w1, n1, Nat.add_assoc, Nat.add_assoc, E _ (by omega)]
    · rw [← Nat.add_assoc, ← Nat.add_assoc, w2, n2, E _ (by omega)]
  have seenW : ∀ y : Nat, y < m → (∀ p : Nat, p < 2 * psm g (qc g) → hd.1 221 (80 * y + p) = hd.1 221 (80 * m + p)) → RW g hd hc y k := fun y hy E c j hc' hj => by
    obtain ⟨n1, n2⟩ := newW c j hc' hj
    have lt := psm_lt hc' hj
    rw [Nat.add_assoc (80 * y), E _ (by omega), E _ (by omega), ← Nat.add_assoc]
    exact ⟨n1, n2⟩
  have fnd : ∀ {h2 hw : Hp} {m' : Nat}, (∀ a j : Nat, ¬ (a = 218 ∧ j = 6) → h2.1 a j = hd.1 a j) → (∀ K j : Nat, ¬ (K = 273 ∧ j = 4) → hw.1 K j = hc.1 K j) → m' ≤ k + 1 → h2.1 218 6 = Int32.ofNat m' → hw.1 273 4 = Int32.ofNat m' → (∀ s : Nat, s < k + 1 → ∃ i : Nat, i < m' ∧ RW g hd hc i s) → (∀ i : Nat, i < m' → ∃ s : Nat, s < k + 1 ∧ RW g hd hc i s) → FND g (k + 1) h2 hw := fun {h2 hw m'} a b mk' e6 e4 A B => by
    have rw' : ∀ {i s : Nat}, RW g hd hc i s → RW g h2 hw i s := fun w c j hc' hj => by
      rw [a _ _ (by omega), a _ _ (by omega), b _ _ (by omega), b _ _ (by omega)]
      exact w c j hc' hj
    refine ⟨⟨?_, ?_, ?_⟩, m', mk', e6, e4, fun s hs => ?_, fun i hi => ?_, fun s c j hs c5 j8 v => ?_⟩
    · rw [a _ _ (by omega), b _ _ (by omega), d1' _ _ (by omega), c1 _ _ (by omega)]; exact gA
    · rw [a _ _ (by omega), b _ _ (by omega), d1' _ _ (by omega), c1 _ _ (by omega)]; exact gB
    · rw [a _ _ (by omega), b _ _ (by omega), d1' _ _ (by omega), c1 _ _ (by omega)]; exact gC
    · obtain ⟨i, hi, w⟩ := A s hs
      exact ⟨i, hi, rw' w⟩
    · obtain ⟨s, hs, w⟩ := B i hi
      exact ⟨s, hs, rw' w⟩
    · rw [b _ _ (by omega), b _ _ (by omega)]
      by_cases z : s = k
      · obtain ⟨v1, v2⟩ := rowC (8 * c + j) (by omega)
        rw [z, v1, v2]
        exact IV c j c5 j8 v
      · rw [oldC _ (by omega), oldC _ (by omega)]
        exact f8 s c j (by omega) c5 j8 v
  have old6 : ∀ s : Nat, s < k → ∃ i : Nat, i < m ∧ RW g hd hc i s := fun s hs => by
    obtain ⟨i, hi, w⟩ := f6 s hs
    exact ⟨i, hi, oldW i s hi hs w⟩
  have old7 : ∀ i : Nat, i < m → ∃ s : Nat, s < k ∧ RW g hd hc i s := fun i hi => by
    obtain ⟨s, hs, w⟩ := f7 i hi
    exact ⟨s, hs, oldW i s hi hs w⟩
  have hd6 : hd.1 218 6 = Int32.ofNat m := by rw [d1' _ _ (by omega)]; exact m6
  have hc4 : hc.1 273 4 = Int32.ofNat m := by rw [c1 _ _ (by omega), y1 _ _ (by omega) (by omega) (by omega) (by omega)]; exact f5
  rcases yk_cmp Sd (m := m) (n := 2 * psm g (qc g)) (by omega) (by omega) hd6 (m + 1) 0 o4' o5' (by omega) (by omega) (fun y hy => by omega) e2 with ⟨w, A⟩ | ⟨w, y, hy, E⟩
  · obtain ⟨-, eh, -⟩ := tri w
    rcases zw_cmp Sc hk (k + 1) 0 (Int32.ofInt 1) (by omega) (by omega) (fun _ y hy => by omega) (fun z => absurd z z1) em with ⟨wm, B⟩ | ⟨wm, s, hs, B⟩
    · obtain ⟨-, em', -⟩ := tri wm
      refine fnd (m' := m + 1) (fun a j z => by rw [eh, setI_no z]) (fun K j z => by rw [em', setI_no z]) (by omega) (by rw [eh, setI_at]) (by rw [em', setI_at, hc4, o32 (by omega)]) (fun s hs => ?_) (fun i hi => ?_)
      · by_cases z : s = k
        · exact ⟨m, by omega, by rw [z]; exact newW⟩
        · obtain ⟨i, hi, w⟩ := old6 s (by omega)
          exact ⟨i, by omega, w⟩
      · by_cases z : i = m
        · exact ⟨k, by omega, by rw [z]; exact newW⟩
        · obtain ⟨s, hs, w⟩ := old7 i (by omega)
          exact ⟨s, by omega, w⟩
    · obtain ⟨y, hy, E⟩ := toX s hs B
      exact absurd E (A y hy)
  · obtain ⟨-, eh, -⟩ := tri w
    rcases zw_cmp Sc hk (k + 1) 0 (Int32.ofInt 1) (by omega) (by omega) (fun _ y hy => by omega) (fun z => absurd z z1) em with ⟨wm, B⟩ | ⟨wm, s, hs, B⟩
    · obtain ⟨s, hs, E'⟩ := toM y hy E
      exact absurd E' (B s hs)
    · obtain ⟨-, em', -⟩ := tri wm
      refine fnd (m' := m) (fun a j z => by rw [eh]) (fun K j z => by rw [em', setI_no z]) (by omega) (by rw [eh]; exact hd6) (by rw [em', setI_at, i_add0]; exact hc4) (fun s hs => ?_) (fun i hi => ?_)
      · by_cases z : s = k
        · exact ⟨y, hy, by rw [z]; exact seenW y hy E⟩
        · exact old6 s (by omega)
      · obtain ⟨s, hs, w⟩ := old7 i hi
        exact ⟨s, by omega, w⟩
