
set_option maxRecDepth 20000
/-! WHAT IS CHECKED: TAKEN AND GATHERED -/
/-- the marks are of acts -/
def MVx (g hm : Hp) : Prop := ∀ m : Nat, (m : Int) < (hm.1 223 16).toInt → ∃ c j : Nat, c < qc g ∧ j < qm g c ∧ hm.1 235 m = Int32.ofNat (8 * c + j)
theorem mvx {g hm : Hp} (G : GS g) (M : SM g hm) (I : RI hm) : MVx g hm := fun m hm' => by
  have e16 : rd 31 16 hm = (hm.1 223 16).toInt := xrd (K := 31) (by decide) (by decide) 16 hm
  have e4 : rd 31 4 hm = (hm.1 223 4).toInt := xrd (K := 31) (by decide) (by decide) 4 hm
  obtain ⟨c, j, c0, c1, j0, j1, e⟩ := I.2.2.1.2.2 (m : Int) (by omega) (by omega)
  have cN : ((c.toNat : Nat) : Int) = c := Int.toNat_of_nonneg c0
  have jN : ((j.toNat : Nat) : Int) = j := Int.toNat_of_nonneg j0
  have ec : c < (qc g : Int) := by
    rw [e4, M.2.2.1, G.1.2.2.2] at c1
    exact c1
  have hc : c.toNat < qc g := by omega
  have e35 : rd 35 c hm = (hm.1 227 c.toNat).toInt := by
    have := xrd (K := 35) (by decide) (by decide) c.toNat hm
    rw [cN] at this
    exact this
  have ej : j < (qm g c.toNat : Int) := by
    rw [e35, M.2.2.2 227 _ (by decide) (by decide), (G.2.2 _ hc).1] at j1
    exact j1
  have hj : j.toNat < qm g c.toNat := by omega
  have c5 := G.c5 hc
  have j8 := G.i8 hc hj
  have e43 : rd 43 (m : Int) hm = (hm.1 235 m).toInt := xrd (K := 43) (by decide) (by decide) m hm
  refine ⟨c.toNat, j.toNat, hc, hj, Int32.toInt_inj.mp ?_⟩
  rw [i32n (by omega), ← e43, e]
  omega
theorem k4 {k : Nat} (hk : k < 80) : (Int32.ofNat k * Int32.ofInt 4).toNatClampNeg = 4 * k ∧ (Int32.ofNat k * Int32.ofInt 4 + Int32.ofInt 1).toNatClampNeg = 4 * k + 1 ∧ (Int32.ofNat k * Int32.ofInt 4 + Int32.ofInt 2).toNatClampNeg = 4 * k + 2 := of_decide_eq_true (List.all_eq_true.mp (show ((List.range 80).all fun k => decide ((Int32.ofNat k * Int32.ofInt 4).toNatClampNeg = 4 * k ∧ (Int32.ofNat k * Int32.ofInt 4 + Int32.ofInt 1).toNatClampNeg = 4 * k + 1 ∧ (Int32.ofNat k * Int32.ofInt 4 + Int32.ofInt 2).toNatClampNeg = 4 * k + 2)) = true by decide +kernel) k (List.mem_range.mpr hk))
/-- an act that is taken -/
def GD (g hm : Hp) (T x : Nat) : Prop := ∃ c j : Nat, c < qc g ∧ j < qm g c ∧ x = 8 * c + j ∧ qT g c j = T ∧ (hm.1 242 x).toInt ≠ -1 ∧ (hm.1 239 x).toInt < 4
def FT (m m' : Hp) : Prop := (∀ K j : Nat, K ≠ 274 → ¬ (K = 223 ∧ j = 60) → m'.1 K j = m.1 K j) ∧ m'.2 = m.2
theorem FT.refl (m : Hp) : FT m m := ⟨fun _ _ _ _ => rfl, rfl⟩
theorem FT.set {m m' : Hp} (x : FT m m') {r j : Nat} {v : Int32} (ok : r = 274 ∨ (r = 223 ∧ j = 60)) : FT m (fl_setI m' r j v) := ⟨fun r' j' z1 z2 => by
  rw [setI_no (fun y => by
    obtain ⟨y1, y2⟩ := y
    subst y1
    subst y2
    rcases ok with ok | ok
    · exact z1 ok
    · exact z2 ok)]
  exact x.1 r' j' z1 z2, x.2⟩
def CG (h h' : Hp) : Prop := (∀ r j : Nat, ¬ (r = 212 ∧ j = 9) → h'.1 r j = h.1 r j) ∧ ∀ r j : Nat, r ≠ 215 → h'.2 r j = h.2 r j
theorem CG.refl (h : Hp) : CG h h := ⟨fun _ _ _ => rfl, fun _ _ _ => rfl⟩
theorem SH.cg {h h' : Hp} (x : CG h h') (S : SH h.2) : SH h'.2 := by
  have q := x.2
  exact ⟨⟨(q 0 0 (by omega)).trans S.ix_0, (q 0 1 (by omega)).trans S.ix_1, (q 0 2 (by omega)).trans S.ix_2, (q 0 3 (by omega)).trans S.ix_3, (q 0 4 (by omega)).trans S.ix_4, (q 1 0 (by omega)).trans S.desk_0, (q 1 1 (by omega)).trans S.desk_1, (q 208 0 (by omega)).trans S.run_0, (q 208 1 (by omega)).trans S.run_1, (q 208 2 (by omega)).trans S.run_2, (q 208 3 (by omega)).trans S.run_3, (q 212 0 (by omega)).trans S.chk_0, (q 212 1 (by omega)).trans S.chk_1, (q 212 2 (by omega)).trans S.chk_2, (q 212 3 (by omega)).trans S.chk_3, (q 212 4 (by omega)).trans S.chk_4, (q 212 5 (by omega)).trans S.chk_5, (q 213 0 (by omega)).trans S.plain_0, (q 218 0 (by omega)).trans S.exp_0, (q 218 1 (by omega)).trans S.exp_1, (q 218 2 (by omega)).trans S.exp_2, (q 218 3 (by omega)).trans S.exp_3, (q 218 4 (by omega)).trans S.exp_4, (q 218 5 (by omega)).trans S.exp_5⟩,
   fun t ht => ⟨(q 2 t (by omega)).trans (S.trs ht), (q _ 0 (by omega)).trans (S.tray_0 ht), (q _ 1 (by omega)).trans (S.tray_1 ht), (q _ 2 (by omega)).trans (S.tray_2 ht), (q _ 3 (by omega)).trans (S.tray_3 ht), (q _ 4 (by omega)).trans (S.tray_4 ht), (q _ 5 (by omega)).trans (S.tray_5 ht), (q _ 0 (by omega)).trans (S.cards_0 ht)⟩,
   fun t ht s hs => ⟨(q _ s (by omega)).trans (S.strs ht hs), (q _ 2 (by omega)).trans (S.stripe_2 ht hs)⟩,
   fun c hc => ⟨(q 3 c (by omega)).trans (S.cks hc), (q _ 1 (by omega)).trans (S.clerk_1 hc), (q _ 2 (by omega)).trans (S.clerk_2 hc), (q _ 0 (by omega)).trans (S.copy_0 hc)⟩,
   fun c hc i hi => (q _ i (by omega)).trans (S.acts hc hi),
   fun p hp => (q 223 p.1 (by omega)).trans (S.2.2.2.2.2 p hp)⟩
/-- taken further, to the end -/
theorem tk_more {d T mm : Nat} {m0 : Hp} {r : Option Value × Hp × Nat} (S0 : SH m0.2) (e16 : (m0.1 223 16).toInt = mm) (m80 : mm ≤ 80) : ∀ (n k c0 : Nat) (hm : Hp) (o3 : Option Value), k ≤ mm → mm - k < n → FT m0 hm → hm.1 223 60 = Int32.ofNat c0 → 12 < c0 → c0 ≤ 100 + k → Ev d 195 (7, [some (.ref 223), some (.int (Int32.ofNat T)), some (.int (Int32.ofNat k)), o3], [], hm, fl_tot) r → ∃ hm' : Hp, r = (none, hm', fl_tot) ∧ FT m0 hm' ∧ 12 < (hm'.1 223 60).toInt
  | 0, k, c0, hm, o3, hk, hn, F, e60, c12, cb, e => by omega
  | n + 1, k, c0, hm, o3, hk, hn, F, e60, c12, cb, e => by
    have S : SH hm.2 := by rw [F.2]; exact S0
    have ek := i32n (n := k) (by omega)
    have ec := i32n (n := c0) (by omega)
    have e16' : (hm.1 223 16).toInt = mm := by rw [F.1 223 16 (by omega) (by omega)]; exact e16
    have nx : ∀ (m' : Hp) (c1 : Nat) (q3 : Option Value), k < mm → FT m0 m' → m'.1 223 60 = Int32.ofNat c1 → c0 ≤ c1 → c1 ≤ c0 + 1 → Ev d 195 (81, [some (.ref 223), some (.int (Int32.ofNat T)), some (.int (Int32.ofNat k)), q3], [], m', fl_tot) r → ∃ hm' : Hp, r = (none, hm', fl_tot) ∧ FT m0 hm' ∧ 12 < (hm'.1 223 60).toInt := fun m' c1 q3 km F' e60' z1 z2 e => by
      have e := zc_tk_i (by rw [F'.2]; exact S0) e
      rw [o32 (by omega)] at e
      exact tk_more S0 e16 m80 n (k + 1) c1 m' q3 (by omega) (by omega) F' e60' (by omega) (by omega) e
    rcases zc_tk_l S e with ⟨q0, e⟩ | ⟨q0, q1, e⟩ | ⟨q0, q1, q2, e⟩ | ⟨q0, q1, q2, q3, e⟩ | ⟨q0, q1, q2, q3, q4, e⟩ | ⟨q0, q1, q2, q3, q4, e⟩
    · exact ⟨hm, zc_tk_x S e, F, by rw [e60, ec]; omega⟩
    · exact nx hm c0 _ (by omega) F e60 (by omega) (by omega) e
    · exact nx hm c0 _ (by omega) F e60 (by omega) (by omega) e
    · exact nx hm c0 _ (by omega) F e60 (by omega) (by omega) e
    · exact nx hm c0 _ (by omega) F e60 (by omega) (by omega) e
    · exact nx _ (c0 + 1) _ (by omega) ((F.set (by omega)).set (by omega)) (by rw [setI_at, e60, o32 (by omega)]) (by omega) (by omega) e
/-- what is the same so far -/
def GT (g m0 h hm : Hp) (T c0 : Nat) (tk : Nat → Nat) : Prop := h.1 212 9 = Int32.ofNat c0 ∧ hm.1 223 60 = Int32.ofNat c0 ∧ ∀ n : Nat, n < c0 → hm.1 274 n = Int32.ofNat (tk n) ∧ h.2 215 n = some (152 + 12 * (tk n / 8) + tk n % 8) ∧ GD g m0 T (tk n)
theorem gather_l {g h0 m0 : Hp} {T mm d1 d2 : Nat} {rx rm : Option Value × Hp × Nat} (G : GS g) (X : SX g h0) (Ms : SM g m0) (MV : MVx g m0) (K1 : h0.1 208 4 = m0.1 223 16) (K2 : ∀ j : Nat, (j : Int) < (m0.1 223 16).toInt → h0.1 209 (4 * j) = Int32.ofNat ((m0.1 235 j).toNatClampNeg / 8) ∧ h0.1 209 (4 * j + 1) = Int32.ofNat ((m0.1 235 j).toNatClampNeg % 8) ∧ h0.1 209 (4 * j + 2) = m0.1 236 j) (OU : ∀ c j : Nat, c < qc g → j < qm g c → h0.1 (152 + 12 * c + j) 15 = m0.1 239 (8 * c + j) ∧ ((m0.1 242 (8 * c + j)).toInt ≠ -1 ↔ (m0.1 239 (8 * c + j)).toInt ≤ 4)) (e16 : (m0.1 223 16).toInt = mm) (m80 : mm ≤ 80) (hT6 : T < 6) : ∀ (n k c0 : Nat) (tk : Nat → Nat) (h hm : Hp) (o3 o4 o5 o6 oo : Option Value), k ≤ mm → mm - k < n → c0 ≤ 12 → c0 ≤ k → CG h0 h → FT m0 hm → GT g m0 h hm T c0 tk →
  Ev d1 107 (2, [some (.ref 212), some (.int (Int32.ofNat T)), some (.int (Int32.ofNat k)), o3, o4, o5, o6], [], h, fl_tot) rx → Ev d2 195 (7, [some (.ref 223), some (.int (Int32.ofNat T)), some (.int (Int32.ofNat k)), oo], [], hm, fl_tot) rm →
  (∃ (M : Nat) (tk' : Nat → Nat) (h' hm' : Hp), M ≤ 12 ∧ rx = (some (.int (Int32.ofInt 1)), h', fl_tot) ∧ rm = (none, hm', fl_tot) ∧ CG h0 h' ∧ FT m0 hm' ∧ GT g m0 h' hm' T M tk') ∨ (∃ h' hm' : Hp, rx = (some (.int (Int32.ofInt 0)), h', fl_tot) ∧ rm = (none, hm', fl_tot) ∧ CG h0 h' ∧ FT m0 hm' ∧ 12 < (hm'.1 223 60).toInt)
  | 0, k, c0, tk, h, hm, o3, o4, o5, o6, oo, hk, hn, c12, ck, F, Fm, GG, e, em => by omega
  | n + 1, k, c0, tk, h, hm, o3, o4, o5, o6, oo, hk, hn, c12, ck, F, Fm, GG, e, em => by
    have S0 : SH h0.2 := X.1
    have S : SH h.2 := SH.cg F S0
    have Sm : SH hm.2 := by rw [Fm.2]; exact Ms.1
    have ek := i32n (n := k) (by omega)
    have ekn : (Int32.ofNat k).toNatClampNeg = k := o32c (by omega)
    have eT := i32n (n := T) (by omega)
    have ec := i32n (n := c0) (by omega)
    have f16 : (hm.1 223 16).toInt = mm := by rw [Fm.1 223 16 (by omega) (by omega)]; exact e16
    have f4 : (h.1 208 4).toInt = mm := by rw [F.1 208 4 (by omega), K1]; exact e16
    obtain ⟨g1, g2, g3⟩ := id GG
    -- both go on
    have nx : ∀ (h' m' : Hp) (c1 : Nat) (tk' : Nat → Nat) (p3 p4 p5 p6 q3 : Option Value), k < mm → c1 ≤ 12 → c1 ≤ k + 1 → CG h0 h' → FT m0 m' → GT g m0 h' m' T c1 tk' → Ev d1 107 (148, [some (.ref 212), some (.int (Int32.ofNat T)), some (.int (Int32.ofNat k)), p3, p4, p5, p6], [], h', fl_tot) rx → Ev d2 195 (81, [some (.ref 223), some (.int (Int32.ofNat T)), some (.int (Int32.ofNat k)), q3], [], m', fl_tot) rm → (∃ (M : Nat) (tk' : Nat → Nat) (h' hm' : Hp), M ≤ 12 ∧ rx = (some (.int (Int32.ofInt 1)), h', fl_tot) ∧ rm = (none, hm', fl_tot) ∧ CG h0 h' ∧ FT m0 hm' ∧ GT g m0 h' hm' T M tk') ∨ (∃ h' hm' : Hp, rx = (some (.int (Int32.ofInt 0)), h', fl_tot) ∧ rm = (none, hm', fl_tot) ∧ CG h0 h' ∧ FT m0 hm' ∧ 12 < (hm'.1 223 60).toInt) := fun h' m' c1 tk' p3 p4 p5 p6 q3 z1 z2 z3 F' Fm' GG' e em => by
      have e := ye_ga_i (SH.cg F' S0) e
      have em := zc_tk_i (by rw [Fm'.2]; exact Ms.1) em
      rw [o32 (by omega)] at e em
      exact gather_l G X Ms MV K1 K2 OU e16 m80 hT6 n (k + 1) c1 tk' h' m' p3 p4 p5 p6 q3 (by omega) (by omega) z2 z3 F' Fm' GG' e em
    have WM := zc_tk_l Sm em
    rcases ye_ga_l S e with ⟨x0, w⟩ | ⟨x0, x1, w⟩ | ⟨x0, x1, x2, e⟩ | ⟨x0, x1, x2, e⟩
    · rcases WM with ⟨q0, em⟩ | ⟨q0, -⟩ | ⟨q0, -⟩ | ⟨q0, -⟩ | ⟨q0, -⟩ | ⟨q0, -⟩
      · exact Or.inl ⟨c0, tk, h, hm, c12, w, zc_tk_x Sm em, F, Fm, GG⟩
      all_goals exfalso; omega
    · exfalso; omega
    · have km : k < mm := by omega
      obtain ⟨i0, i1, i2⟩ := k4 (k := k) (by omega)
      have y := (K2 k (by omega)).2.2
      rw [i2, F.1 209 _ (by omega), y] at x2
      rcases WM with ⟨q0, -⟩ | ⟨q0, q1, em⟩ | ⟨q0, q1, -⟩ | ⟨q0, q1, -⟩ | ⟨q0, q1, -⟩ | ⟨q0, q1, -⟩
      · exfalso; omega
      · exact nx h hm c0 tk _ _ _ _ _ km c12 (by omega) F Fm GG e em
      all_goals
        rw [ekn, Fm.1 236 _ (by omega) (by omega)] at q1
        exact absurd q1 x2
    · have km : k < mm := by omega
      obtain ⟨i0, i1, i2⟩ := k4 (k := k) (by omega)
      obtain ⟨y1, y2, y3⟩ := K2 k (by omega)
      obtain ⟨c, j, hc, hj, e35⟩ := MV k (by omega)
      have c5 := G.c5 hc
      have j8 := G.i8 hc hj
      have q5 := G.1.2.2.1
      have xn : (Int32.ofNat (8 * c + j)).toNatClampNeg = 8 * c + j := o32c (by omega)
      have z1 : (8 * c + j) / 8 = c := by omega
      have z2 : (8 * c + j) % 8 = j := by omega
      rw [e35, xn] at y1 y2
      rw [z1] at y1
      rw [z2] at y2
      rw [i2, F.1 209 _ (by omega), y3] at x2
      rw [i0, i1, F.1 209 (4 * k) (by omega), F.1 209 (4 * k + 1) (by omega), y1, y2] at e
      obtain ⟨d3, v3, h3, n3, z3, ec3, e⟩ := b_call (m2 := 23) (k := 2) (nL := 3) (as := [.ref 1, .int (Int32.ofNat c), .int (Int32.ofNat j)]) (rest := []) (L := [some (.ref 1), some (.int (Int32.ofNat c)), some (.int (Int32.ofNat j))]) e (show fl_code 107 69 = some (18, [((23 : Nat) : Int), ((2 : Nat) : Int)], 72) by decide +kernel) rfl (by decide +kernel) rfl rfl rfl
      have cI := i32n (n := c) (by omega)
      have jI := i32n (n := j) (by omega)
      have cN : (Int32.ofNat c).toNatClampNeg = c := o32c (by omega)
      have b13 : (h.1 1 3).toInt = qc g := by rw [F.1 1 3 (by omega), X.2.1.2]; exact G.1.2.2.2
      have bm : (h.1 (148 + 12 * (Int32.ofNat c).toNatClampNeg) 3).toInt = qm g c := by
        rw [cN, F.1 _ _ (by omega), (X.2.2.2.2.1 c hc).1]
        exact (G.2.2 c hc).1
      have w3 : (v3, h3, n3) = (some (.int (Int32.ofInt 1)), h, fl_tot) := by
        rcases x_hasAct S ec3 with ⟨-, w⟩ | ⟨z, -⟩
        · exact w
        · exact absurd ⟨by omega, by omega, by omega, by omega, by omega, by omega⟩ z
      obtain ⟨wa, wb, wc⟩ := tri w3
      rw [wa, wb, wc] at e
      have e : Ev d1 107 (72, [some (.ref 212), some (.int (Int32.ofNat T)), some (.int (Int32.ofNat k)), some (.int ((Int32.ofNat k) * (Int32.ofInt 4))), some (.int (Int32.ofNat c)), some (.int (Int32.ofNat j)), o6], [.int (Int32.ofInt 1)], h, fl_tot) rx := e
      have a2 : h.1 (152 + 12 * c + j) 2 = Int32.ofNat (qT g c j) := by
        rw [F.1 _ _ (by omega), ((X.2.2.2.2.1 c hc).2 j hj).1]
        exact G.e28 hc hj
      have a15 : h.1 (152 + 12 * c + j) 15 = m0.1 239 (8 * c + j) := by rw [F.1 _ _ (by omega)]; exact (OU c j hc hj).1
      have o42 := (OU c j hc hj).2
      have tT := i32n (n := qT g c j) (by have := G.T6 hc hj; omega)
      have m28 : hm.1 228 (8 * c + j) = Int32.ofNat (qT g c j) := by
        rw [Fm.1 228 _ (by omega) (by omega), Ms.2.2.2 228 _ (by decide) (by decide)]
        exact G.e28 hc hj
      have m42 : hm.1 242 (8 * c + j) = m0.1 242 (8 * c + j) := Fm.1 242 _ (by omega) (by omega)
      have m39 : hm.1 239 (8 * c + j) = m0.1 239 (8 * c + j) := Fm.1 239 _ (by omega) (by omega)
      have m35 : hm.1 235 k = Int32.ofNat (8 * c + j) := by rw [Fm.1 235 _ (by omega) (by omega)]; exact e35
      have m36 : hm.1 236 k = m0.1 236 k := Fm.1 236 _ (by omega) (by omega)
      rw [ekn, m35, xn, m28, m42, m39, m36, tT, eT, f16, ek, g2] at WM
      have WX := ye_ga_a S c5 j8 e
      rw [a2, a15, tT, eT, g1] at WX
      rcases WX with ⟨-, -, -, -, -, p6, e⟩ | ⟨-, -, -, -, -, p6, p7, e⟩ | ⟨-, -, -, -, -, p6, p7, p8, e⟩ | ⟨-, -, -, -, -, p6, p7, p8, w⟩ | ⟨p0, -⟩
      · rcases WM with ⟨q0, -⟩ | ⟨q0, q1, -⟩ | ⟨q0, q1, q2, em⟩ | ⟨q0, q1, q2, -⟩ | ⟨q0, q1, q2, -⟩ | ⟨q0, q1, q2, -⟩
        · exfalso; omega
        · exact absurd x2 q1
        · exact nx h hm c0 tk _ _ _ _ _ km c12 (by omega) F Fm GG e em
        all_goals exact absurd q2 p6
      · rcases WM with ⟨q0, -⟩ | ⟨q0, q1, -⟩ | ⟨q0, q1, q2, -⟩ | ⟨q0, q1, q2, q3, em⟩ | ⟨q0, q1, q2, q3, q4, em⟩ | ⟨q0, q1, q2, q3, q4, -⟩
        · exfalso; omega
        · exact absurd x2 q1
        · exact absurd p6 q2
        · exact nx h hm c0 tk _ _ _ _ _ km c12 (by omega) F Fm GG e em
        · exact nx h hm c0 tk _ _ _ _ _ km c12 (by omega) F Fm GG e em
        · have := o42.mp q3
          exfalso; omega
      · have em' : (m0.1 242 (8 * c + j)).toInt ≠ -1 := o42.mpr (by omega)
        rcases WM with ⟨q0, -⟩ | ⟨q0, q1, -⟩ | ⟨q0, q1, q2, -⟩ | ⟨q0, q1, q2, q3, -⟩ | ⟨q0, q1, q2, q3, q4, -⟩ | ⟨q0, q1, q2, q3, q4, em⟩
        · exfalso; omega
        · exact absurd x2 q1
        · exact absurd p6 q2
        · exact absurd q3 em'
        · exfalso; omega
        · have c11 : c0 < 12 := by omega
          have cn : (Int32.ofNat c0).toNatClampNeg = c0 := o32c (by omega)
          obtain ⟨-, -, -, e⟩ := b16 e (show fl_code 107 137 = some (16, [], 138) by decide +kernel) (show fl_lay 215 = (30, 12) by decide +kernel)
          rw [cn] at e
          have S2 : SH (fl_setR h 215 c0 (some (152 + 12 * c + j))).2 := SH.set215 S
          have e := ye_ga_b S2 c5 j8 e
          have g1' : (fl_setR h 215 c0 (some (152 + 12 * c + j))).1 212 9 = Int32.ofNat c0 := g1
          rw [g1', o32 (by omega)] at e
          rw [cn, o32 (by omega)] at em
          have F' : CG h0 (fl_setI (fl_setR h 215 c0 (some (152 + 12 * c + j))) 212 9 (Int32.ofNat (c0 + 1))) := by
            refine ⟨fun r i z => ?_, fun r i z => ?_⟩
            · rw [setI_no (by omega)]
              exact F.1 r i z
            · show (fl_setR h 215 c0 (some (152 + 12 * c + j))).2 r i = _
              rw [rR, if_neg (fun y => z y.1)]
              exact F.2 r i z
          refine nx _ _ (c0 + 1) (upP tk c0 (8 * c + j)) _ _ _ _ _ km (by omega) (by omega) F' ((Fm.set (by omega)).set (by omega)) ⟨setI_at, setI_at, fun n hn => ?_⟩ e em
          by_cases z : n = c0
          · rw [z, upP_at, z1, z2]
            refine ⟨by rw [setI_no (by omega), setI_at], ?_, c, j, hc, hj, rfl, by omega, em', p7⟩
            show (fl_setR h 215 c0 (some (152 + 12 * c + j))).2 215 c0 = _
            rw [rR, if_pos ⟨rfl, rfl⟩]
          · rw [upP_no z]
            obtain ⟨u1, u2, u3⟩ := g3 n (by omega)
            refine ⟨by rw [setI_no (by omega), setI_no (by omega)]; exact u1, ?_, u3⟩
            show (fl_setR h 215 c0 (some (152 + 12 * c + j))).2 215 n = _
            rw [rR, if_neg (fun y => z y.2)]
            exact u2
      · have em' : (m0.1 242 (8 * c + j)).toInt ≠ -1 := o42.mpr (by omega)
        have cc : c0 = 12 := by omega
        rcases WM with ⟨q0, -⟩ | ⟨q0, q1, -⟩ | ⟨q0, q1, q2, -⟩ | ⟨q0, q1, q2, q3, -⟩ | ⟨q0, q1, q2, q3, q4, -⟩ | ⟨q0, q1, q2, q3, q4, em⟩
        · exfalso; omega
        · exact absurd x2 q1
        · exact absurd p6 q2
        · exact absurd q3 em'
        · exfalso; omega
        · have Fm' : FT m0 (fl_setI (fl_setI hm 274 (Int32.ofNat c0).toNatClampNeg (Int32.ofNat (8 * c + j))) 223 60 (Int32.ofNat c0 + Int32.ofInt 1)) := (Fm.set (by omega)).set (by omega)
          have em := zc_tk_i (by rw [Fm'.2]; exact Ms.1) em
          rw [o32 (by omega)] at em
          obtain ⟨hm', w1, w2, w3⟩ := tk_more Ms.1 e16 m80 (mm - (k + 1) + 1) (k + 1) (c0 + 1) _ _ (by omega) (by omega) Fm' (by rw [setI_at, o32 (by omega)]) (by omega) (by omega) em
          exact Or.inr ⟨h, hm', w, w1, F, w2, w3⟩
      · exact absurd p0 (by decide)
