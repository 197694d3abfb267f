
set_option maxRecDepth 20000
/-! EXPLORE, BOTH SIDES: all runs -/
theorem SX.g {g g' h : Hp} (e0 : g'.1 223 0 = g.1 223 0) (e4 : g'.1 223 4 = g.1 223 4) (F : ∀ K j : Nat, 224 ≤ K → K ≤ 234 → g'.1 K j = g.1 K j) (X : SX g h) : SX g' h := by
  obtain ⟨x1, ⟨x2, x3⟩, x4, x5, x6, x7⟩ := X
  have t1 : qt g' = qt g := by unfold qt; rw [e0]
  have t2 : qc g' = qc g := by unfold qc; rw [e4]
  have t3 : ∀ c, qm g' c = qm g c := fun c => by unfold qm; rw [F 227 c (by decide) (by decide)]
  refine ⟨x1, ⟨by rw [e0]; exact x2, by rw [e4]; exact x3⟩, fun t ht => ?_, x5, fun c hc => ?_, x7⟩
  · rw [F 224 t (by decide) (by decide), F 225 t (by decide) (by decide), F 226 t (by decide) (by decide)]
    exact x4 t (by omega)
  · rw [F 227 c (by decide) (by decide)]
    obtain ⟨y1, y2⟩ := x6 c (by omega)
    refine ⟨y1, fun i hi => ?_⟩
    rw [F 228 _ (by decide) (by decide), F 229 _ (by decide) (by decide), F 230 _ (by decide) (by decide), F 231 _ (by decide) (by decide), F 232 _ (by decide) (by decide)]
    exact y2 i (by rw [t3] at hi; exact hi)
theorem XK.sx {h0 h : Hp} (K : XK h0 h) : SX h0 h := (SX.of K.2.1 K.1.1 K.1.2.2.1 K.1.2.2.2).g (by rw [K.2.2 223 (by decide) (by decide)]) (by rw [K.2.2 223 (by decide) (by decide)]) (fun R j h1 h2 => by rw [K.2.2 R (by omega) (by omega)])
/-- one run from its beginning, both sides -/
theorem ex_run {b g h hm : Hp} {d d2 fo : Nat} {mo rs mr : Int32} {o5 o6 : Option Value} {r r2 : Option Value × Hp × Nat} (G : GS g) (X : SX g h) (M : SM g hm) (hT : TInv h) (hTm : TInv hm) (V : SV hm) (stat : ∀ t : Nat, t < qt g → (g.1 224 t).toInt = 5 → ∀ j : Nat, j < 32 → h.1 (9 + 24 * t) j = hm.1 234 (32 * t + j)) (hfo : fo ≤ 600) (P : PLx b g h hm 0 fo) (Fb : Fq exKs exFs b hm) (e : Ev d 26 (0, [some (.ref 208), some (.ref 219), none, none, none], [], h, fl_tot) r) (e2 : Ev d2 206 (66, [some (.ref 223), some (.int mo), some (.int (Int32.ofNat fo)), some (.int rs), some (.int mr), o5, o6], [.ref 223], hm, fl_tot) r2) : ∃ (h' hm' : Hp) (st' : Nat) (v n5 : Int32) (o6' : Option Value), st' ≤ 600 ∧ (0 ≤ v.toInt ∧ v.toInt ≤ 2) ∧ r = (none, fl_setI (fl_setI h' 208 5 (Int32.ofNat st')) 208 6 v, fl_tot) ∧ EXR b g h' hm' st' fo ∧ Ev d2 206 (163, [some (.ref 223), some (.int mo), some (.int (Int32.ofNat fo)), some (.int rs), some (.int mr), some (.int n5), o6'], [.int rs, .ref 223], fl_setI hm' 223 14 v, fl_tot) r2 := by
  have t6 := G.1.1
  have e := y_run_0 X.1 e
  obtain ⟨d3, v3, h3, n3, z3, ec3, e⟩ := b_call (m2 := 27) (k := 0) (nL := 4) (as := [.ref 1]) (rest := []) (L := [some (.ref 1), none, none, none]) e (show fl_code 26 4 = some (18, [((27 : Nat) : Int), ((0 : Nat) : Int)], 7) by decide +kernel) rfl (by decide +kernel) rfl rfl rfl
  obtain ⟨h1, a1, a2, a3, a4, a5, a6⟩ := x_begins G X hT ec3
  obtain ⟨w1, w2, w3⟩ := tri a1
  rw [w1, w2, w3] at e
  have e : Ev d 26 (7, [some (.ref 208), some (.ref 219), none, none, none], [], h1, fl_tot) r := e
  have e := y_run_1 a3.1 e
  obtain ⟨h2, eh⟩ : ∃ z, z = fl_setI h1 208 4 (Int32.ofInt 0) := ⟨_, rfl⟩
  rw [← eh] at e
  have T2 : TInv h2 := by rw [eh]; exact a2.w (r := 208) (k := 4) (lo := 0) (hi := 80) (by decide +kernel) (by decide)
  have lo : ∀ r j : Nat, ¬ (r = 208 ∧ j = 4) → h2.1 r j = h1.1 r j := fun r j z => by rw [eh]; exact setI_no z
  have h22 : h2.2 = h1.2 := by rw [eh]; rfl
  have X2 : SX g h2 := SX.low G h22 (fun r j z => lo r j (by omega)) a3
  -- the reference
  obtain ⟨d4, v4, h4, n4, z4, ec4, e2⟩ := b_call (m2 := 154) (k := 0) (nL := 2) (as := [.ref 223]) (rest := []) (L := [some (.ref 223), none]) e2 (show fl_code 206 66 = some (18, [((154 : Nat) : Int), ((0 : Nat) : Int)], 69) by decide +kernel) rfl (by decide +kernel) rfl rfl rfl
  obtain ⟨hm1, b1, B⟩ := z_begins M.1 ec4
  obtain ⟨hq, c1, c2, c3⟩ := c_begins hTm
  have k := ev_det ec4 (show Ev 3 154 (0, [some (.ref 223), none], [], hm, fl_tot) _ from by
    have := c1 3 (Nat.le_refl _)
    rw [rv31] at this
    exact this)
  rw [b1] at k
  obtain ⟨-, k2, -⟩ := tri k
  subst k2
  have I1 : RI hm1 := RI.begins hTm V c3
  obtain ⟨w1, w2, w3⟩ := tri b1
  rw [w1, w2, w3] at e2
  have e2 : Ev d2 206 (69, [some (.ref 223), some (.int mo), some (.int (Int32.ofNat fo)), some (.int rs), some (.int mr), o5, o6], [], hm1, fl_tot) r2 := e2
  have R : RR g h2 hm1 0 := RR.zero G X2 (fun t ht => (a4 t ht).eq (by omega) fun r j hr => lo r j (by omega)) (fun c hc => ⟨by rw [lo _ _ (by have := G.c5 hc; omega)]; exact (a5 c hc).1, fun i hi => ((a5 c hc).2 i hi).eq (G.c5 hc) (G.i8 hc hi) (fun r j hr => lo r j (by omega)) h22⟩) (by rw [eh, setI_at]) M B c2.1 X stat
  have Re : Rea b (chF hm1) 0 hm1 := ⟨c2.1, I1, hm, hm1, SEq.of Fb rfl, c3, c2.1, Fq.refl hm1⟩
  have PL : PLx b g h2 hm1 0 fo := P.fr (Nat.le_refl _) (fun j => by rw [lo _ _ (by omega), a6 _ _ (by omega)]) (fun j _ => c3.1.k 90 _ rfl)
  have E : EXR b g h2 hm1 0 fo := ⟨R, T2, I1, Re, fun j hj => by omega, PL, Fb.trans (c3.1.wide rfl rfl)⟩
  -- who is able first
  obtain ⟨d5, v5, h5, nn5, z5, ec5, e⟩ := b_call (m2 := 35) (k := 1) (nL := 4) (as := [.ref 208, .int (Int32.ofInt 0)]) (rest := []) (L := [some (.ref 208), some (.int (Int32.ofInt 0)), none, none]) e (show fl_code 26 14 = some (18, [((35 : Nat) : Int), ((1 : Nat) : Int)], 17) by decide +kernel) rfl (by decide +kernel) rfl rfl rfl
  obtain ⟨w1, w2, w3⟩ := tri (x_find (st := 0) G R I1 (by omega) ec5)
  rw [w1, w2, w3] at e
  have e : Ev d 26 (17, [some (.ref 208), some (.ref 219), none, none, none], [.int (abM (PA hm1) (qc g))], h2, fl_tot) r := e
  have e : Ev d 26 (20, [some (.ref 208), some (.ref 219), some (.int (abM (PA hm1) (qc g))), some (.int (Int32.ofInt 0)), none], [], h2, fl_tot) r := e.bk [((3, [2, 0], 18), 0), ((1, [0], 19), 0), ((3, [3, 0], 20), 0)] [] (by decide +kernel) trivial rfl
  have e2 := z_ex_3 R.1.2.1.1 e2
  obtain ⟨d6, v6, h6, n6, z6, ec6, e2⟩ := b_call (m2 := 207) (k := 0) (nL := 3) (as := [.ref 223]) (rest := []) (L := [some (.ref 223), none, none]) e2 (show fl_code 206 70 = some (18, [((207 : Nat) : Int), ((0 : Nat) : Int)], 73) by decide +kernel) rfl (by decide +kernel) rfl rfl rfl
  obtain ⟨x1, x2, x3⟩ := tri (ev_det ec6 (show Ev 6 207 (0, [some (.ref 223), none, none], [], hm1, fl_tot) _ from by
    have := c_ableMany c2.1 (fun c q1 q2 => I1.ab c2.1 q1 q2) 6 (Nat.le_refl _)
    rw [rv31] at this
    exact this))
  rw [x1, x2, x3] at e2
  have e2 : Ev d2 206 (73, [some (.ref 223), some (.int mo), some (.int (Int32.ofNat fo)), some (.int rs), some (.int mr), o5, o6], [.int (Int32.ofInt (cntA hm1 0))], hm1, fl_tot) r2 := e2
  exact ex_in G hfo 601 (st := 0) (by omega) (by omega) E e (z_ex_4 R.1.2.1.1 e2)
/-- where the reference's plan changes -/
theorem z_la {hm : Hp} (S : SH hm.2) {mo fo rs mr n5 : Int32} {d2 : Nat} {r2 : Option Value × Hp × Nat} (b0 : ∀ j : Nat, j < 600 → 0 ≤ (hm.1 282 j).toInt ∧ (hm.1 282 j).toInt ≤ 4) : ∀ n : Nat, n ≤ 600 → Ev d2 206 (177, [some (.ref 223), some (.int mo), some (.int fo), some (.int rs), some (.int mr), some (.int n5), some (.int (Int32.ofNat n - Int32.ofInt 1))], [], hm, fl_tot) r2 → ((∀ s : Nat, s < n → (hm.1 283 s).toInt ≤ (hm.1 282 s).toInt + 1) ∧ ∃ la : Int32, la.toInt < 0 ∧ Ev d2 206 (207, [some (.ref 223), some (.int mo), some (.int fo), some (.int rs), some (.int mr), some (.int n5), some (.int la)], [], hm, fl_tot) r2) ∨ ∃ s : Nat, s < n ∧ (hm.1 282 s).toInt + 1 < (hm.1 283 s).toInt ∧ (∀ s' : Nat, s < s' → s' < n → (hm.1 283 s').toInt ≤ (hm.1 282 s').toInt + 1) ∧ Ev d2 206 (207, [some (.ref 223), some (.int mo), some (.int fo), some (.int rs), some (.int mr), some (.int n5), some (.int (Int32.ofNat s))], [], hm, fl_tot) r2 := by
  intro n
  induction n with
  | zero =>
    intro _ e
    rcases z_ex_11 S e with ⟨q, e⟩ | ⟨q, -⟩ | ⟨q, -⟩
    · exact Or.inl ⟨fun s hs => by omega, _, q, e⟩
    · exact absurd q (by decide)
    · exact absurd q (by decide)
  | succ n ih =>
    intro hn e
    rw [(nsub (by omega)).1] at e
    have b := b0 n (by omega)
    rcases z_ex_11 S e with ⟨q, -⟩ | ⟨-, q, e⟩ | ⟨-, q, e⟩
    · rw [i32n (by omega)] at q
      omega
    · rw [o32c (by omega), add1 (y := 5) (by omega) (by omega)] at q
      exact Or.inr ⟨n, by omega, q, fun s' z1 z2 => by omega, e⟩
    · rw [o32c (by omega), add1 (y := 5) (by omega) (by omega)] at q
      rw [(nsub (by omega)).2] at e
      rcases ih (by omega) e with ⟨a, e⟩ | ⟨s, a1, a2, a3, e⟩
      · refine Or.inl ⟨fun s hs => ?_, e⟩
        by_cases z : s = n
        · rw [z]; exact q
        · exact a s (by omega)
      · refine Or.inr ⟨s, by omega, a2, fun s' z1 z2 => ?_, e⟩
        by_cases z : s' = n
        · rw [z]; exact q
        · exact a3 s' z1 (by omega)
/-- the books say on both sides where the plan changes -/
theorem nob_ar {b g h hm : Hp} {st s : Nat} (q5 : qc g ≤ 5) (A : ARx b g h hm st) (hs : s < st) : NOB h s ↔ (hm.1 283 s).toInt ≤ (hm.1 282 s).toInt + 1 := by
  obtain ⟨gj, c, a1, a2, a3, a4, a5, a6, a7⟩ := A s hs
  rw [rd282] at a3
  rw [rd283] at a7
  have k := nob_iff a2 q5 a3
  rw [a7, ← k]
  have c5 := (nth_lt a2 q5 a3).1
  unfold NOB
  rw [a4, a5, i32n (by omega)]
  exact ⟨fun z c' h1 h2 => z c' (by omega) h2, fun z c' h1 h2 => z c' (by omega) h2⟩
def XL (b h0 h hm : Hp) (fo : Nat) (mr : Int32) : Prop := XK h0 h ∧ h.1 218 7 = h0.1 218 7 ∧ TInv hm ∧ SV hm ∧ SM h0 hm ∧ Fq exKs exFs b hm ∧ fo ≤ 600 ∧ (0 ≤ mr.toInt ∧ mr.toInt ≤ 1) ∧ (mr.toInt ≠ 0 → PLx b h0 h hm 0 fo)
theorem exp_l {b h0 : Hp} (hT0 : TInv h0) (U0 : LI h0) {mo : Int32} (hmo : mo.toInt ≤ 60) {d d2 : Nat} {r r2 : Option Value × Hp × Nat} : ∀ (f k fo : Nat) (mr : Int32) (h hm : Hp) (o5 o6 : Option Value), XL b h0 h hm fo mr → k ≤ 60 → (k : Int) ≤ mo.toInt → 60 - k ≤ f → Ev d 129 (43, [some (.ref 0), some (.int mo), some (.int mr), some (.int (Int32.ofNat k))], [], h, fl_tot) r → Ev d2 206 (55, [some (.ref 223), some (.int mo), some (.int (Int32.ofNat fo)), some (.int (Int32.ofNat k)), some (.int mr), o5, o6], [], hm, fl_tot) r2 → ∃ (k' fo' : Nat) (mr' : Int32) (h' hm' : Hp) (o5' o6' : Option Value), XL b h0 h' hm' fo' mr' ∧ k' ≤ 60 ∧ (k' : Int) ≤ mo.toInt ∧ Ev d 129 (94, [some (.ref 0), some (.int mo), some (.int mr'), some (.int (Int32.ofNat k'))], [], h', fl_tot) r ∧ Ev d2 206 (243, [some (.ref 223), some (.int mo), some (.int (Int32.ofNat fo')), some (.int (Int32.ofNat k')), some (.int mr'), o5', o6'], [], hm', fl_tot) r2 := by
  have G : GS h0 := GS.of hT0 U0.2.2.2
  have q5 : qc h0 ≤ 5 := G.1.2.2.1
  have Q := qt_i hT0
  intro f
  induction f with
  | zero =>
    intro k fo mr h hm o5 o6 L hk hkm hf e e2
    have ek : (Int32.ofNat k).toInt = k := i32n (by omega)
    rcases z_ex_2 L.2.2.2.2.1.1 e2 with ⟨m0, e2⟩ | ⟨-, m0, e2⟩ | ⟨-, m0, -⟩
    · rcases x_expl_2 L.1.1.1.1 e with ⟨-, e⟩ | ⟨-, -, e⟩ | ⟨q, q2, -⟩
      · exact ⟨k, fo, mr, h, hm, o5, o6, L, hk, hkm, e, e2⟩
      · exact ⟨k, fo, mr, h, hm, o5, o6, L, hk, hkm, e, e2⟩
      · exact absurd m0 q2
    · rcases x_expl_2 L.1.1.1.1 e with ⟨-, e⟩ | ⟨-, -, e⟩ | ⟨q, q2, -⟩
      · exact ⟨k, fo, mr, h, hm, o5, o6, L, hk, hkm, e, e2⟩
      · exact ⟨k, fo, mr, h, hm, o5, o6, L, hk, hkm, e, e2⟩
      · omega
    · omega
  | succ f ih =>
    intro k fo mr h hm o5 o6 L hk hkm hf e e2
    have ek : (Int32.ofNat k).toInt = k := i32n (by omega)
    rcases z_ex_2 L.2.2.2.2.1.1 e2 with ⟨m0, e2⟩ | ⟨-, m0, e2⟩ | ⟨m1, m0, e2⟩
    · rcases x_expl_2 L.1.1.1.1 e with ⟨-, e⟩ | ⟨-, -, e⟩ | ⟨q, q2, -⟩
      · exact ⟨k, fo, mr, h, hm, o5, o6, L, hk, hkm, e, e2⟩
      · exact ⟨k, fo, mr, h, hm, o5, o6, L, hk, hkm, e, e2⟩
      · exact absurd m0 q2
    · rcases x_expl_2 L.1.1.1.1 e with ⟨-, e⟩ | ⟨-, -, e⟩ | ⟨q, q2, -⟩
      · exact ⟨k, fo, mr, h, hm, o5, o6, L, hk, hkm, e, e2⟩
      · exact ⟨k, fo, mr, h, hm, o5, o6, L, hk, hkm, e, e2⟩
      · omega
    · rcases x_expl_2 L.1.1.1.1 e with ⟨q, -⟩ | ⟨-, q, -⟩ | ⟨-, -, e⟩
      · omega
      · exact absurd q m1
      · obtain ⟨K, G7, hTm, V, M, Fb, hfo, bmr, PL⟩ := L
        obtain ⟨d1, v1, h1, n1, z1, ec1, e⟩ := b_call (m2 := 26) (k := 1) (nL := 5) (as := [.ref 208, .ref 219]) (rest := []) (L := [some (.ref 208), some (.ref 219), none, none, none]) e (show fl_code 129 63 = some (18, [((26 : Nat) : Int), ((1 : Nat) : Int)], 66) by decide +kernel) rfl (by decide +kernel) rfl rfl rfl
        obtain ⟨h', hm', st, v, n5, o6', st6, bv, rx, E, e2⟩ := ex_run G K.sx M K.2.1 hTm V (fun t ht _ j hj => by
          have u := K.1.1.2.2.1 t (by omega) (by
            have k3 := K.1.1.2.1.1
            rw [k3, K.2.2 223 (by decide) (by decide)]
            omega)
          rw [u.2.2.2 j hj, K.2.2 234 (by decide) (by decide), M.2.2.2 234 _ (by decide) (by decide)]) hfo (PL m1) Fb ec1 e2
        obtain ⟨g1, g1a, K1, -, s1⟩ := xk_go K
        have w := g1a _ _ ec1
        obtain ⟨w1, w2, w3⟩ := tri w
        rw [w1, w2, w3] at e
        rw [w] at rx
        obtain ⟨-, eg1, -⟩ := tri rx
        have e : Ev d 129 (66, [some (.ref 0), some (.int mo), some (.int mr), some (.int (Int32.ofNat k))], [], g1, fl_tot) r := e
        have e := x_expl_3 K1.1.1.1 e
        obtain ⟨d3, v3, h3, n3, z3, ec3, e⟩ := b_call (m2 := 131) (k := 0) (nL := 5) (as := [.ref 218]) (rest := []) (L := [some (.ref 218), none, none, none, none]) e (show fl_code 129 70 = some (18, [((131 : Nat) : Int), ((0 : Nat) : Int)], 73) by decide +kernel) rfl (by decide +kernel) rfl rfl rfl
        obtain ⟨g2, g2a, K2, f2, s2⟩ := xk_judge K1
        obtain ⟨w1, w2, w3⟩ := tri (g2a _ _ ec3)
        rw [w1, w2, w3] at e
        have e : Ev d 129 (73, [some (.ref 0), some (.int mo), some (.int mr), some (.int (Int32.ofNat k))], [], g2, fl_tot) r := e
        have e := x_expl_4 K2.1.1.1 e
        obtain ⟨d4, v4, h4, n4, z4, ec4, e⟩ := b_call (m2 := 132) (k := 0) (nL := 6) (as := [.ref 218]) (rest := []) (L := [some (.ref 218), none, none, none, none, none]) e (show fl_code 129 77 = some (18, [((132 : Nat) : Int), ((0 : Nat) : Int)], 80) by decide +kernel) rfl (by decide +kernel) rfl rfl rfl
        obtain ⟨g3, g3a, K3, f3, s3⟩ := xk_see K2
        obtain ⟨w1, w2, w3⟩ := tri (g3a _ _ ec4)
        rw [w1, w2, w3] at e
        have e : Ev d 129 (80, [some (.ref 0), some (.int mo), some (.int mr), some (.int (Int32.ofNat k))], [], g3, fl_tot) r := e
        have e := x_expl_5 K3.1.1.1 e
        have cl : ∀ r : Nat, r = 208 ∨ r = 210 ∨ r = 211 → g3.1 r = g1.1 r := fun r hr => by
          rcases hr with rfl | rfl | rfl
          · rw [(f3 208 (by decide +kernel)).1, (f2 208 (by decide +kernel)).1]
          · rw [(f3 210 (by decide +kernel)).1, (f2 210 (by decide +kernel)).1]
          · rw [(f3 211 (by decide +kernel)).1, (f2 211 (by decide +kernel)).1]
        have en : g3.1 208 5 = Int32.ofNat st := by rw [cl 208 (Or.inl rfl), eg1, setI_no (by omega), setI_at]
        obtain ⟨d5, v5, h5, nn5, z5, ec5, e⟩ := b_call (m2 := 134) (k := 0) (nL := 4) (as := [.ref 218]) (rest := []) (L := [some (.ref 218), none, none, none]) e (show fl_code 129 84 = some (18, [((134 : Nat) : Int), ((0 : Nat) : Int)], 87) by decide +kernel) rfl (by decide +kernel) rfl rfl rfl
        obtain ⟨x, g4, g4a, K4, bx, NX⟩ := xk_plan K3 st6 en
        obtain ⟨w1, w2, w3⟩ := tri (g4a _ _ ec5)
        rw [w1, w2, w3] at e
        have e : Ev d 129 (87, [some (.ref 0), some (.int mo), some (.int mr), some (.int (Int32.ofNat k))], [.int x], g4, fl_tot) r := e
        have e := x_expl_6 K4.1.1.1 e
        rw [o32 (by omega)] at e
        have s4 : g4.1 218 7 = g3.1 218 7 := by
          rcases NX with ⟨-, -, y⟩ | ⟨s, c, -, -, y⟩
          · rw [y]
          · rw [y, planH_no (by decide)]
        -- the reference: weighed
        obtain ⟨R, -, I, -, A, -, Fb'⟩ := E
        have Tm' := R.1.2.2.2.2
        obtain ⟨hv, ehv⟩ : ∃ z, z = fl_setI hm' 223 14 v := ⟨_, rfl⟩
        rw [← ehv] at e2
        have Thv : TInv hv := by rw [ehv]; exact Tm'.w (r := 223) (k := 14) (lo := 0) (hi := 2) (by decide +kernel) bv
        have Fv : Fq [] [14] hm' hv := Fq.cells (fun K j h1 h2 _ => by rw [ehv, setI_no (by omega)]) (fun k hk => by
          simp only [List.mem_cons, List.not_mem_nil, or_false] at hk
          rw [ehv, setI_no (by omega)])
        have Iv : RI hv := I.fr Fv rfl
        obtain ⟨d6, v6, h6, n6, z6, ec6, e2⟩ := b_call (m2 := 209) (k := 1) (nL := 6) (as := [.ref 223, .int (Int32.ofNat k)]) (rest := []) (L := [some (.ref 223), some (.int (Int32.ofNat k)), none, none, none, none]) e2 (show fl_code 206 163 = some (18, [((209 : Nat) : Int), ((1 : Nat) : Int)], 166) by decide +kernel) rfl (by decide +kernel) rfl rfl rfl
        obtain ⟨hw, y1, y2, y3⟩ := c_weighs Thv Iv (run := (k : Int)) (by omega)
        obtain ⟨w1, w2, w3⟩ := tri (ev_det ec6 (show Ev 9 209 (0, [some (.ref 223), some (.int (Int32.ofNat k)), none, none, none, none], [], hv, fl_tot) _ from by
          have := y1 9 (Nat.le_refl _)
          rw [rv31] at this
          exact this))
        rw [w1, w2, w3] at e2
        have e2 : Ev d2 206 (166, [some (.ref 223), some (.int mo), some (.int (Int32.ofNat fo)), some (.int (Int32.ofNat k)), some (.int mr), some (.int n5), o6'], [], hw, fl_tot) r2 := e2
        have Mv : SM h0 hv := SM.low (by rw [ehv]; rfl) (fun K j hK => by rw [ehv, setI_no (by omega)]) R.1.2.1
        have Mw : SM h0 hw := SM.low y2.2.1 (fun K j hK => by
          rcases hK with ⟨rfl, hj⟩ | ⟨k1, k2⟩
          · rcases hj with rfl | rfl
            · exact y3.fc 0 (by decide)
            · exact y3.fc 4 (by decide)
          · have := y3.c (K := K - 192) (by omega) (by omega) (fun z => by
              have : ∀ q ∈ weKs, 81 ≤ q := by decide
              have := this _ z
              omega) j
            rw [show 192 + (K - 192) = K by omega] at this
            exact this) Mv
        have Iw : RI hw := Iv.fr y3 rfl
        have e15 : hw.1 223 15 = Int32.ofNat st := by
          have a := y3.fc 15 (by decide)
          have b2 := Fv.fc 15 (by decide)
          rw [a, b2]
          exact R.1.2.2.1
        have e2 := z_ex_10 Mw.1 e2
        rw [e15, o32 (by omega)] at e2
        have q90 : ∀ j : Nat, rd 90 (j : Int) hw = rd 90 (j : Int) hm' := fun j => (y3.k 90 _ rfl).trans (Fv.k 90 _ rfl)
        have q91 : ∀ j : Nat, rd 91 (j : Int) hw = rd 91 (j : Int) hm' := fun j => (y3.k 91 _ rfl).trans (Fv.k 91 _ rfl)
        have Aw : ARx b h0 g3 hw st := A.fr (fun j hj => by
          rw [cl 210 (Or.inr (Or.inl rfl)), cl 211 (Or.inr (Or.inr rfl)), eg1, setI_no (by omega), setI_no (by omega), setI_no (by omega), setI_no (by omega)]
          exact ⟨rfl, rfl⟩) (fun j hj => ⟨q90 j, q91 j⟩)
        have Fw : Fq exKs exFs b hw := Fb'.trans ((Fv.wide rfl rfl).trans (y3.wide rfl rfl))
        have b0 : ∀ j : Nat, j < 600 → 0 ≤ (hw.1 282 j).toInt ∧ (hw.1 282 j).toInt ≤ 4 := fun j hj => TI.rng y2.1 90 600 0 4 (by decide +kernel) (by decide) (by decide) (i := j) hj
        have G4 : g4.1 218 7 = h0.1 218 7 := by rw [s4, s3, s2, s1]; exact G7
        rcases z_la Mw.1 b0 st st6 e2 with ⟨a, la, la0, e2⟩ | ⟨s, a1, a2, a3, e2⟩
        · -- no more
          rcases NX with ⟨n1, n2, n3⟩ | ⟨s, c, n1, n2, n3⟩
          · rcases z_ex_12 Mw.1 e2 with ⟨-, e2⟩ | ⟨q, -⟩
            · rw [n2] at e
              exact ih (k + 1) fo (Int32.ofInt 0) g4 hw _ _ ⟨K4, G4, y2.1, Iw.1, Mw, Fw, hfo, by decide, fun z => absurd (by decide) z⟩ (by omega) (by omega) (by omega) e e2
            · omega
          · exfalso
            obtain ⟨c1, c2, c3, c4, -⟩ := n1
            have nb := (nob_ar q5 Aw c1).mpr (a s c1)
            rw [nb c c3 c2] at c4
            cases c4
        · rcases NX with ⟨n1, n2, n3⟩ | ⟨s', c, n1, n2, n3⟩
          · exfalso
            have := (nob_ar q5 Aw a1).mp (n1 s a1)
            omega
          · obtain ⟨c1, c2, c3, c4, c5, c6⟩ := n1
            have es : s' = s := by
              by_cases z1 : s' < s
              · exfalso
                have := (nob_ar q5 Aw a1).mp (c6 s z1 a1)
                omega
              · by_cases z2 : s < s'
                · exfalso
                  have nb := (nob_ar q5 Aw c1).mpr (a3 s' z2 c1)
                  rw [nb c c3 c2] at c4
                  cases c4
                · omega
            subst es
            have esn : (Int32.ofNat s').toNatClampNeg = s' := o32c (by omega)
            have esi : (Int32.ofNat s').toInt = s' := i32n (by omega)
            rcases z_ex_12 Mw.1 e2 with ⟨q, -⟩ | ⟨-, e2⟩
            · omega
            · rw [esn, o32 (by omega)] at e2
              rw [n2] at e
              obtain ⟨gj, c0, u1, u2, u3, u4, u5, u6, u7⟩ := Aw s' c1
              obtain ⟨hz, ehz⟩ : ∃ z, z = fl_setI hw 282 s' (hw.1 282 s' + Int32.ofInt 1) := ⟨_, rfl⟩
              rw [← ehz] at e2
              have bs := b0 s' (by omega)
              have ai : (hw.1 282 s' + Int32.ofInt 1).toInt = (hw.1 282 s').toInt + 1 := add1 (y := 5) (by omega) (by omega)
              rw [rd282] at u3 u6
              rw [rd283] at u7
              have cg := cntA_bd gj 0
              have c0n := (nth_lt u2 q5 u3).1
              rw [u4, i32n (by omega)] at c3 c5
              rw [u5] at c4 c5
              obtain ⟨N1, N2⟩ := nxt_nth u2 q5 u3 (by omega) c2 c4 (fun c'' z1 z2 => c5 c'' (by omega) z2)
              have Tz : TInv hz := by
                rw [ehz]
                exact y2.1.a 282 _ 0 4 (by decide +kernel) (by decide +kernel) (by omega)
              have lz : ∀ K j : Nat, K ≠ 282 → hz.1 K j = hw.1 K j := fun K j z => by rw [ehz, setI_no (by omega)]
              have Fz : Fq [90] [] hw hz := Fq.cells (fun K j h1 h2 h3 => lz _ _ (by
                simp only [List.mem_cons, List.not_mem_nil, or_false] at h3
                omega)) (fun k _ => lz _ _ (by omega))
              have z90 : ∀ j : Nat, hz.1 282 j = if j = s' then hw.1 282 s' + Int32.ofInt 1 else hw.1 282 j := fun j => by
                by_cases y : j = s'
                · rw [if_pos y, y, ehz, setI_at]
                · rw [if_neg y, ehz, setI_no (by omega)]
              have Mz : SM h0 hz := SM.low (by rw [ehz]; rfl) (fun K j hK => lz K j (by omega)) Mw
              have Iz : RI hz := Iw.fr Fz rfl
              have chz : ∀ i : Int, 0 ≤ i → i < s' → rd 90 i hz = rd 90 i hw := fun i p1 p2 => by
                obtain ⟨q, rfl⟩ : ∃ q : Nat, i = (q : Int) := ⟨i.toNat, by omega⟩
                rw [rd282, rd282, z90, if_neg (by omega)]
              have pl : ∀ j : Nat, j < 600 → g4.1 219 j = if s' + 1 ≤ j then Int32.ofInt (-1) else if j = s' then Int32.ofNat c else g3.1 210 j := fun j hj => by
                rw [n3]
                show (if 219 = 219 ∧ s' + 1 ≤ j ∧ j < 600 then Int32.ofInt (-1) else (if 219 = 219 ∧ j = s' then Int32.ofNat c else (if 219 = 219 then (if 0 ≤ j ∧ j < 0 + s' then g3.1 210 (0 + (j - 0)) else g3.1 219 j) else g3.1 219 j))) = _
                by_cases y1 : s' + 1 ≤ j
                · rw [if_pos ⟨rfl, y1, hj⟩, if_pos y1]
                · rw [if_neg (fun y => y1 y.2.1), if_neg y1]
                  by_cases y2 : j = s'
                  · rw [if_pos ⟨rfl, y2⟩, if_pos y2]
                  · rw [if_neg (fun y => y2 y.2), if_neg y2, if_pos rfl, if_pos (by omega), show 0 + (j - 0) = j by omega]
              have PLn : PLx b h0 g4 hz 0 (s' + 1) := by
                refine ⟨fun j _ hj => ?_, fun j _ h1 h2 => by rw [pl j h2, if_pos h1]⟩
                by_cases y : j = s'
                · subst y
                  refine ⟨gj, c, Rea.ch (fun i p1 p2 => chz i p1 p2) u1, u2, ?_, ?_, ?_⟩
                  · rw [rd282, z90, if_pos rfl, ai]; exact N1
                  · rw [pl j (by omega), if_neg (by omega), if_pos rfl]
                  · rw [rd282, z90, if_pos rfl, ai]
                    omega
                · obtain ⟨gk, ck, t1, t2, t3, t4, t5, t6, t7⟩ := Aw j (by omega)
                  refine ⟨gk, ck, Rea.ch (fun i p1 p2 => chz i p1 (by omega)) t1, t2, ?_, ?_, ?_⟩
                  · rw [rd282, z90, if_neg y, ← rd282]; exact t3
                  · rw [pl j (by omega), if_neg (by omega), if_neg y]; exact t4
                  · rw [rd282, z90, if_neg y, ← rd282]; exact t6
              exact ih (k + 1) (s' + 1) (Int32.ofInt 1) g4 hz _ _ ⟨K4, G4, Tz, Iz.1, Mz, Fw.trans (Fz.wide rfl rfl), by omega, by decide, fun _ => PLn⟩ (by omega) (by omega) (by omega) e e2
/-- the reference's `explored` is emptied -/
theorem z_zero {mo : Int32} {d2 : Nat} {r2 : Option Value × Hp × Nat} : ∀ (f k : Nat) (hm : Hp), SH hm.2 → TInv hm → k ≤ 5 → 5 - k ≤ f → Ev d2 206 (30, [some (.ref 223), some (.int mo), some (.int (Int32.ofNat k)), none, none, none, none], [], hm, fl_tot) r2 → ∃ hm' : Hp, TInv hm' ∧ hm'.2 = hm.2 ∧ (∀ K j : Nat, K ≠ 273 → hm'.1 K j = hm.1 K j) ∧ Ev d2 206 (55, [some (.ref 223), some (.int mo), some (.int (Int32.ofInt 0)), some (.int (Int32.ofInt 0)), some (.int (Int32.ofInt 1)), none, none], [], hm', fl_tot) r2 := by
  intro f
  induction f with
  | zero =>
    intro k hm S T hk hf e
    rcases z_ex_1 S e with ⟨-, e⟩ | ⟨q, -⟩
    · exact ⟨hm, T, rfl, fun _ _ _ => rfl, e⟩
    · rw [i32n (by omega)] at q
      omega
  | succ f ih =>
    intro k hm S T hk hf e
    rcases z_ex_1 S e with ⟨-, e⟩ | ⟨q, e⟩
    · exact ⟨hm, T, rfl, fun _ _ _ => rfl, e⟩
    · rw [i32n (by omega)] at q
      rw [o32 (by omega), o32c (by omega)] at e
      obtain ⟨hm', a1, a2, a3, a4⟩ := ih (k + 1) (fl_setI hm 273 k (Int32.ofInt 0)) S (T.full 273 _ _ (by decide +kernel) (by decide +kernel)) (by omega) (by omega) e
      exact ⟨hm', a1, a2, fun K j z => by rw [a3 K j z, setI_no (by omega)], a4⟩
/-- what explore leaves: refused on both sides, or a last run alike -/
theorem explore_case {h h1 h2 : Hp} {d d2 : Nat} {mo : Int32} {w v : Value} (U : LI h) (G7 : h.1 218 7 = h.1 223 74) (hT : TInv h) (hT1 : TInv h1) (V : SV h1) (X : Ev d 129 (0, [some (.ref 0), some (.int mo), none, none], [], h, fl_tot) (some w, h1, fl_tot)) (M : Ev d2 206 (0, [some (.ref 223), some (.int mo), none, none, none, none, none], [], h1, fl_tot) (some v, h2, fl_tot)) : w = v ∧ ((h1 = h ∧ h2 = h) ∨ ∃ (hL hx hm : Hp) (u : Int32) (st' : Nat), st' ≤ 600 ∧ h1 = fl_setI hx 0 5 (Int32.ofInt 1) ∧ XK h hL ∧ XK h hx ∧ RR hL hx h2 st' ∧ RI h2 ∧ hx.1 208 6 = u ∧ hx.1 208 5 = Int32.ofNat st' ∧ h2.1 223 14 = u ∧ h2.1 223 13 = Int32.ofInt 1 ∧ hx.1 218 7 = hm.1 223 74 ∧ TInv hm ∧ SV hm ∧ ∃ d3 z, Ev d3 153 (0, [some (.ref 223), none, none], [], hm, fl_tot) (z, h2, fl_tot)) := by
  have K0 : XK h h := ⟨U, hT, fun _ _ _ => rfl⟩
  have X0 := X
  -- the class's heap, the reference's
  have hx0 := x_explore U hT X
  have S1 : SH h1.2 ∧ ∀ r j : Nat, 223 ≤ r → r < 285 → h1.1 r j = h.1 r j := by
    rcases hx0 with (w0 | w0) | ⟨k, d', hL, hR, -, -, K, w0⟩
    · rw [(tri w0).2.1]; exact ⟨K0.1.1.1, fun _ _ _ _ => rfl⟩
    · rw [(tri w0).2.1]; exact ⟨K0.1.1.1, fun _ _ _ _ => rfl⟩
    · rw [(tri w0).2.1]
      exact ⟨K.1.1.1, fun r j h1 h2 => by rw [setI_no (by omega), K.2.2 r h1 h2]⟩
  obtain ⟨S1, q1⟩ := S1
  have M0 := z_ex_0 S1 M
  obtain ⟨d3, v3, h3, n3, z3, ec3, M0⟩ := b_call (m2 := 143) (k := 3) (nL := 3) (as := [.int mo, .int (Int32.ofInt 1), .int (Int32.ofInt 60)]) (rest := []) (L := [some (.int mo), some (.int (Int32.ofInt 1)), some (.int (Int32.ofInt 60))]) M0 (show fl_code 206 4 = some (19, [((143 : Nat) : Int), ((3 : Nat) : Int)], 7) by decide +kernel) rfl (by decide +kernel) rfl rfl rfl
  have i1 : (Int32.ofInt 1).toInt = 1 := by decide
  have i60 : (Int32.ofInt 60).toInt = 60 := by decide
  have eg : h1.1 223 74 = h.1 218 7 := by rw [q1 _ _ (by decide) (by decide), G7]
  have refused : ∀ {y : Int32}, (some w, h1, fl_tot) = (some (Value.int y), h, fl_tot) → (some v, h2, fl_tot) = (some (Value.int y), h1, fl_tot) → w = v ∧ (h1 = h ∧ h2 = h) := fun {y} a b => by
    obtain ⟨a1, a2, -⟩ := tri a
    obtain ⟨b1, b2, -⟩ := tri b
    cases a1
    cases b1
    exact ⟨rfl, a2, by rw [b2, a2]⟩
  rcases xm_in ec3 with ⟨c1, w3⟩ | ⟨c1, w3⟩
  · obtain ⟨w1, w2, w3⟩ := tri w3
    rw [w1, w2, w3] at M0
    have M0 : Ev d2 206 (7, [some (.ref 223), some (.int mo), none, none, none, none, none], [.int (Int32.ofInt 1)], h1, fl_tot) (some v, h2, fl_tot) := M0
    rcases z_ex_0b S1 M0 with ⟨-, c2, M0⟩ | ⟨-, c2, M0⟩ | ⟨q, -⟩
    · -- both go on
      rw [eg] at c2
      rcases x_expl_0 U.1.1 X with ⟨q, -⟩ | ⟨-, q2, -, e⟩ | ⟨-, -, q, -⟩ | ⟨-, q, -⟩
      · omega
      · obtain ⟨d4, v4, h4, n4, z4, ec4, e⟩ := b_call (m2 := 130) (k := 0) (nL := 1) (as := [.ref 218]) (rest := []) (L := [some (.ref 218)]) e (show fl_code 129 36 = some (18, [((130 : Nat) : Int), ((0 : Nat) : Int)], 39) by decide +kernel) rfl (by decide +kernel) rfl rfl rfl
        obtain ⟨g1, g1a, K1, eg1⟩ := xk_beg K0
        obtain ⟨w1, w2, w3⟩ := tri (g1a _ _ ec4)
        rw [w1, w2, w3] at e
        have e : Ev d 129 (39, [some (.ref 0), some (.int mo), none, none], [], g1, fl_tot) (some w, h1, fl_tot) := e
        have e := x_expl_1 K1.1.1.1 e
        have g7 : g1.1 218 7 = h.1 218 7 := by
          rw [eg1, setI_no (by omega)]
          show (if 218 = 220 ∧ 7 < 5 then Int32.ofInt 0 else if 218 = 219 ∧ 7 < 600 then Int32.ofInt (-1) else h.1 218 7) = _
          rw [if_neg (by omega), if_neg (by omega)]
        have pl : ∀ j : Nat, j < 600 → g1.1 219 j = Int32.ofInt (-1) := fun j hj => by
          rw [eg1, setI_no (by omega)]
          show (if 219 = 220 ∧ j < 5 then Int32.ofInt 0 else if 219 = 219 ∧ j < 600 then Int32.ofInt (-1) else h.1 219 j) = _
          rw [if_neg (by omega), if_pos ⟨rfl, hj⟩]
        obtain ⟨hb, a1, a2, a3, M0⟩ := z_zero 5 0 h1 S1 hT1 (by omega) (by omega) M0
        have Mb : SM h hb := by
          refine ⟨by rw [a2]; exact S1, ?_, ?_, fun K j z1 z2 => ?_⟩
          · rw [a3 _ _ (by decide), q1 _ _ (by decide) (by decide)]
          · rw [a3 _ _ (by decide), q1 _ _ (by decide) (by decide)]
          · rw [a3 _ _ (by omega), q1 _ _ (by omega) (by omega)]
        have Fb : Fq [81] [] h1 hb := Fq.cells (fun K j z1 z2 z3 => a3 _ _ (by
          simp only [List.mem_cons, List.not_mem_nil, or_false] at z3
          omega)) (fun k _ => a3 _ _ (by decide))
        have Vb : SV hb := V.fr Fb rfl
        obtain ⟨k, fo, mr, hE, hmE, o5, o6, L, hk, hkm, e, M0⟩ := exp_l (b := hb) hT U q2 60 0 0 (Int32.ofInt 1) g1 hb none none ⟨K1, g7, a1, Vb, Mb, Fq.refl hb, by omega, by decide, fun _ => ⟨fun j _ hj => by omega, fun j _ _ hj => pl j hj⟩⟩ (by omega) (by omega) (by omega) e M0
        obtain ⟨KE, GE, TmE, VE, ME, FE, -, bmr, -⟩ := L
        have e := x_expl_7 KE.1.1.1 e
        obtain ⟨d5, v5, h5, nn5, z5, ec5, e⟩ := b_call (m2 := 135) (k := 2) (nL := 3) (as := [.ref 218, .int (Int32.ofNat k), .int mr]) (rest := []) (L := [some (.ref 218), some (.int (Int32.ofNat k)), some (.int mr)]) e (show fl_code 129 100 = some (18, [((135 : Nat) : Int), ((2 : Nat) : Int)], 103) by decide +kernel) rfl (by decide +kernel) rfl rfl rfl
        obtain ⟨g3, g3a, K3, eg3⟩ := xk_end KE hk bmr
        obtain ⟨w1, w2, w3⟩ := tri (g3a _ _ ec5)
        rw [w1, w2, w3] at e
        have e : Ev d 129 (103, [some (.ref 0), some (.int mo), some (.int mr), some (.int (Int32.ofNat k))], [], g3, fl_tot) (some w, h1, fl_tot) := e
        have e := x_expl_8 K3.1.1.1 e
        obtain ⟨d6, v6, h6, n6, z6, ec6, e⟩ := b_call (m2 := 26) (k := 1) (nL := 5) (as := [.ref 208, .ref 222]) (rest := []) (L := [some (.ref 208), some (.ref 222), none, none, none]) e (show fl_code 129 111 = some (18, [((26 : Nat) : Int), ((1 : Nat) : Int)], 114) by decide +kernel) rfl (by decide +kernel) rfl rfl rfl
        obtain ⟨g4, g4a, K4, -, s4⟩ := xk_run K3
        obtain ⟨w1, w2, w3⟩ := tri (g4a _ _ ec6)
        rw [w1, w2, w3] at e ec6
        have e : Ev d 129 (114, [some (.ref 0), some (.int mo), some (.int mr), some (.int (Int32.ofNat k))], [], g4, fl_tot) (some w, h1, fl_tot) := e
        obtain ⟨f1, f2, -⟩ := tri (x_expl_9 K4.1.1.1 e)
        have g37 : g3.1 218 7 = h.1 218 7 + Int32.ofNat k := by rw [eg3, setI_at, GE]
        -- the reference's end
        have fin : ∀ {y : Int32}, Ev d2 206 (270, [some (.ref 223), some (.int mo), some (.int (Int32.ofNat fo)), some (.int (Int32.ofNat k)), some (.int mr), o5, o6], [.ref 223], fl_setI (fl_setI hmE 273 0 y) 223 74 (hmE.1 223 74 + Int32.ofNat k), fl_tot) (some v, h2, fl_tot) → w = v ∧ ((h1 = h ∧ h2 = h) ∨ ∃ (hL hx hm : Hp) (u : Int32) (st' : Nat), st' ≤ 600 ∧ h1 = fl_setI hx 0 5 (Int32.ofInt 1) ∧ XK h hL ∧ XK h hx ∧ RR hL hx h2 st' ∧ RI h2 ∧ hx.1 208 6 = u ∧ hx.1 208 5 = Int32.ofNat st' ∧ h2.1 223 14 = u ∧ h2.1 223 13 = Int32.ofInt 1 ∧ hx.1 218 7 = hm.1 223 74 ∧ TInv hm ∧ SV hm ∧ ∃ d3 z, Ev d3 153 (0, [some (.ref 223), none, none], [], hm, fl_tot) (z, h2, fl_tot)) := fun {y} N => by
          obtain ⟨hF, ehF⟩ : ∃ z, z = fl_setI (fl_setI hmE 273 0 y) 223 74 (hmE.1 223 74 + Int32.ofNat k) := ⟨_, rfl⟩
          rw [← ehF] at N
          have e74 : hmE.1 223 74 = h1.1 223 74 := by
            have := FE.fc 74 (by decide)
            rw [this, a3 _ _ (by decide)]
          have b74 : 0 ≤ (h1.1 223 74).toInt ∧ (h1.1 223 74).toInt ≤ 1000 := rdt_ok hT1 31 74
          have sm : (hmE.1 223 74 + Int32.ofNat k).toInt = (h1.1 223 74).toInt + k ∧ (h1.1 223 74).toInt + k ≤ 1000 := by
            have c3 : (h1.1 223 74 + mo).toInt = (h1.1 223 74).toInt + mo.toInt := by
              rw [Int32.toInt_add]
              exact i_bm (by omega) (by omega)
            rw [← eg, c3] at c2
            have ek : (Int32.ofNat k).toInt = k := i32n (by omega)
            rw [e74, Int32.toInt_add, ek, i_bm (by omega) (by omega)]
            omega
          have TF : TInv hF := by
            rw [ehF]
            exact (TmE.full 273 _ _ (by decide +kernel) (by decide +kernel)).w (r := 223) (k := 74) (lo := 0) (hi := 1000) (by decide +kernel) (by omega)
          have lF : ∀ K j : Nat, K ≠ 273 → ¬ (K = 223 ∧ j = 74) → hF.1 K j = hmE.1 K j := fun K j z1 z2 => by rw [ehF, setI_no (by omega), setI_no (by omega)]
          have FF : Fq [81] [74] hmE hF := Fq.cells (fun K j z1 z2 z3 => lF _ _ (by
            simp only [List.mem_cons, List.not_mem_nil, or_false] at z3
            omega) (by omega)) (fun k' hk' => lF _ _ (by decide) (by
            simp only [List.mem_cons, List.not_mem_nil, or_false] at hk'
            omega))
          have VF : SV hF := VE.fr FF rfl
          have MF : SM h hF := SM.low (by rw [ehF]; rfl) (fun K j hK => lF K j (by omega) (by omega)) ME
          obtain ⟨d7, v7, h7, n7, z7, ec7, N⟩ := b_call (m2 := 153) (k := 0) (nL := 3) (as := [.ref 223]) (rest := []) (L := [some (.ref 223), none, none]) N (show fl_code 206 270 = some (18, [((153 : Nat) : Int), ((0 : Nat) : Int)], 273) by decide +kernel) rfl (by decide +kernel) rfl rfl rfl
          have k3 : ∀ K j : Nat, 223 ≤ K → K < 285 → g3.1 K j = h.1 K j := fun K j z1 z2 => by rw [K3.2.2 K z1 z2]
          obtain ⟨hW, u, st', b1, b2, b3, b4, -, b6, b7, b8, b9⟩ := run_law2 K3.2.1 TF K3.1 VF (by rw [MF.2.1, k3 _ _ (by decide) (by decide)]) (by rw [MF.2.2.1, k3 _ _ (by decide) (by decide)]) (fun K j z1 z2 => by rw [MF.2.2.2 K j z1 z2, k3 _ _ (by omega) (by omega)]) MF.1 ec6 ec7
          have ec7' := ec7
          rw [b2] at ec7'
          obtain ⟨w1, w2, w3⟩ := tri b2
          rw [w1, w2, w3] at N
          have N : Ev d2 206 (273, [some (.ref 223), some (.int mo), some (.int (Int32.ofNat fo)), some (.int (Int32.ofNat k)), some (.int mr), o5, o6], [.int u], hW, fl_tot) (some v, h2, fl_tot) := N
          obtain ⟨x1, x2, -⟩ := tri (z_ex_14 b3.1.2.1.1 N)
          cases f1
          cases x1
          subst x2
          exact ⟨rfl, Or.inr ⟨g3, g4, hF, u, st', b1, f2, K3, K4, b3, b4, b6, b7, b8, b9, by rw [s4, g37, ehF, setI_at, e74, eg], TF, VF, d7, _, ec7'⟩⟩
        rcases z_ex_13 ME.1 M0 with ⟨-, N⟩ | ⟨-, N⟩
        · exact fin N
        · exact fin N
      · omega
      · omega
    · -- full
      rw [eg] at c2
      rcases x_expl_0 U.1.1 X with ⟨q, -⟩ | ⟨-, -, q, -⟩ | ⟨-, -, -, e⟩ | ⟨-, q, -⟩
      · omega
      · omega
      · obtain ⟨a, b⟩ := refused e M0
        exact ⟨a, Or.inl b⟩
      · omega
    · exact absurd q (by decide)
  · obtain ⟨w1, w2, w3⟩ := tri w3
    rw [w1, w2, w3] at M0
    have M0 : Ev d2 206 (7, [some (.ref 223), some (.int mo), none, none, none, none, none], [.int (Int32.ofInt 0)], h1, fl_tot) (some v, h2, fl_tot) := M0
    rcases z_ex_0b S1 M0 with ⟨q, -⟩ | ⟨q, -⟩ | ⟨-, M0⟩
    · exact absurd (by decide) q
    · exact absurd (by decide) q
    · rcases x_expl_0 U.1.1 X with ⟨-, e⟩ | ⟨q1', q2, -, -⟩ | ⟨q1', q2, -, -⟩ | ⟨-, -, e⟩
      · obtain ⟨a, b⟩ := refused e M0
        exact ⟨a, Or.inl b⟩
      · omega
      · omega
      · obtain ⟨a, b⟩ := refused e M0
        exact ⟨a, Or.inl b⟩
