
set_option maxRecDepth 20000
/-! THE LOOP OF A RUN, BOTH SIDES -/
theorem RR.out {g h h' hm hm' : Hp} {st : Nat} (G : GS g) (R : RR g h hm st) (x : ∀ r j : Nat, ¬ (r = 208 ∧ (j = 5 ∨ j = 6)) → ¬ (r = 210 ∨ r = 211) → h'.1 r j = h.1 r j) (x2 : h'.2 = h.2) (m : ∀ K j : Nat, ¬ (K = 223 ∧ (j = 13 ∨ j = 14)) → hm'.1 K j = hm.1 K j) (m2 : hm'.2 = hm.2) (T : TInv hm') : RR g h' hm' st := by
  obtain ⟨⟨X, M, S15, K, hT⟩, RT, RO⟩ := R
  have t6 := G.1.1
  have MXX : KMX hm hm' := ⟨by rw [m _ _ (by omega)]; exact Int.le_refl _, fun j _ => ⟨m _ _ (by omega), m _ _ (by omega), m _ _ (by omega)⟩⟩
  refine ⟨⟨X.low G x2 (fun r j hr => x r j (by omega) (by omega)), M.low m2 (fun K j hK => m K j (by omega)), by rw [m _ _ (by omega)]; exact S15, K.fr (x _ _ (by omega) (by omega)) (fun j => x _ _ (by omega) (by omega)) (m _ _ (by omega)) (fun K j h1 h2 => m _ _ (by omega)), T⟩, fun t ht => ⟨?_, ?_⟩, fun o ho => ?_⟩
  · exact (RT t ht).1.fr (TI.rng hT 69 6 0 40 (by decide +kernel) (by decide) (by decide) (i := t) (by omega)).2 (Int.le_refl _) ⟨fun j => ⟨x _ _ (by omega) (by omega), x _ _ (by omega) (by omega), x _ _ (by omega) (by omega), x _ _ (by omega) (by omega)⟩, fun K j hK _ _ => m _ _ (by omega), fun j _ _ => m _ _ (by omega), fun K hK => m _ _ (by omega), fun j _ _ => m _ _ (by omega)⟩
  · exact (RT t ht).2.fr (fun j => x _ _ (by omega) (by omega)) (fun j _ _ => m _ _ (by omega))
  · have o5 := G.c5 ho
    exact (RO o ho).fr ⟨fun r j _ _ => ⟨x _ _ (by omega) (by omega), by rw [x2]⟩, fun K h1 h2 => m _ _ (by omega), fun K j hK h1 h2 => m _ _ (by omega), fun K j h1 h2 h3 h4 => m _ _ (by omega), fun j hj => by rw [m _ _ (by omega)]; exact hj⟩ MXX (G.m8 ho)
theorem kd_ck {c : Nat} (hc : c < 5) : ab_kd (148 + 12 * c) = 16 := of_decide_eq_true (List.all_eq_true.mp (show ((List.range 5).all fun c => decide (ab_kd (148 + 12 * c) = 16)) = true by decide +kernel) c (List.mem_range.mpr hc))
/-- a step of the class keeps its types and what it doesn't touch -/
theorem x_do {h : Hp} {c st : Nat} (hT : TInv h) (hc : c < 5) (st9 : st < 600) : ∃ m1, (∀ (d : Nat) (r : Option Value × Hp × Nat), Ev d 42 (0, [some (.ref 208), some (.ref (148 + 12 * c)), some (.int (Int32.ofNat st)), none], [], h, fl_tot) r → r = (none, m1, fl_tot)) ∧ TInv m1 ∧ Fr [4, 5, 6, 8, 9, 10, 11, 13, 16, 18, 19, 20] h m1 := by
  have b : (0 : Int) ≤ (Int32.ofNat st).toInt ∧ (Int32.ofNat st).toInt ≤ 599 := by rw [i32n (by omega)]; omega
  obtain ⟨m1, d0, e0, e1, e2, e3⟩ := xcon (j := 70) (m := 42) (nL := 4) (as := [.ref 208, .ref (148 + 12 * c), .int (Int32.ofNat st)]) (h := h) (L := [some (.ref 208), some (.ref (148 + 12 * c)), some (.int (Int32.ofNat st)), none]) (show ab_cts[70]? = some (42, 4, [(2, 19, 0), (2, 16, 0), (1, 0, 599)], (9, 0, 0), [4, 5, 6, 8, 9, 10, 11, 13, 16, 18, 19, 20], [], []) by rfl) rfl rfl rfl hT ⟨_, _, rfl, ⟨_, rfl, (by decide +kernel)⟩, ⟨_, _, rfl, ⟨_, rfl, kd_ck hc⟩, ⟨_, _, rfl, ⟨_, rfl, b.1, b.2⟩, rfl⟩⟩⟩ (by decide +kernel) rfl
  exact ⟨m1, e1, e2, e3⟩
def PA (hm : Hp) : Nat → Bool := fun j => decide (ableV hm (j : Int) = 1)
theorem PA_t {hm : Hp} {j : Nat} (h : ableV hm (j : Int) = 1) : PA hm j = true := decide_eq_true h
theorem PA_f {hm : Hp} {j : Nat} (h : ableV hm (j : Int) = 0) : PA hm j = false := decide_eq_false (by omega)
theorem PA_1 {hm : Hp} {j : Nat} (h : PA hm j = true) : ableV hm (j : Int) = 1 := of_decide_eq_true h
theorem PA_0 {hm : Hp} {j : Nat} (h : PA hm j = false) : ableV hm (j : Int) = 0 := by
  have := of_decide_eq_false h
  have := ableV_bd hm (j : Int)
  omega
theorem PA_i (hm : Hp) (j : Nat) : Int32.ofInt (ableV hm (j : Int)) = if PA hm j = true then Int32.ofInt 1 else Int32.ofInt 0 := by
  rcases ableV_bd hm (j : Int) with e | e
  · rw [e, if_neg (by rw [PA_f e]; decide)]
  · rw [e, if_pos (PA_t e)]
/-- choices are alike -/
def CHr (h hm : Hp) : Prop := ∀ j : Nat, j < 600 → h.1 222 j = hm.1 233 j
/-- the reference's least able clerk -/
def LV (g hm : Hp) (lv : Int32) : Prop := (lv = Int32.ofInt (-1) ∧ ∀ j : Nat, j < qc g → PA hm j = false) ∨ ∃ c0 : Nat, c0 < qc g ∧ PA hm c0 = true ∧ (∀ j : Nat, j < c0 → PA hm j = false) ∧ lv = Int32.ofNat c0
theorem r4_of {g hm : Hp} (G : GS g) (M : SM g hm) : (hm.1 223 4).toInt = qc g ∧ rd 31 4 hm = qc g := by
  have a : (hm.1 223 4).toInt = qc g := by
    rw [M.2.2.1]
    exact G.1.2.2.2
  refine ⟨a, ?_⟩
  rw [show (4 : Int) = ((4 : Nat) : Int) from rfl, xrd (by decide) (by decide)]
  exact a
theorem hP_x {g h hm : Hp} {st : Nat} (G : GS g) (R : RR g h hm st) (I : RI hm) (st9 : st ≤ 600) : ∀ c, c < qc g → ∀ d r, Ev d 36 (0, [some (.ref 208), some (.ref (148 + 12 * c)), some (.int (Int32.ofNat st)), none], [], h, fl_tot) r → r = (some (.int (if PA hm c = true then Int32.ofInt 1 else Int32.ofInt 0)), h, fl_tot) := fun c hc d r e => by
  rw [← PA_i]
  exact able_x G R I st9 hc e
theorem hP_z {g h hm : Hp} {st : Nat} (G : GS g) (R : RR g h hm st) (I : RI hm) : ∀ c, c < qc g → ∀ d r, Ev d 156 (0, [some (.ref 223), some (.int (Int32.ofNat c)), none, none, none], [], hm, fl_tot) r → r = (some (.int (if PA hm c = true then Int32.ofInt 1 else Int32.ofInt 0)), hm, fl_tot) := fun c hc d r e => by
  rw [← PA_i]
  exact able_z R.1.2.2.2.2 I (G.c5 hc) (by rw [(r4_of G R.1.2.1).2]; omega) e
/-- both look for who is able -/
theorem x_find {g h hm : Hp} {st d : Nat} {r : Option Value × Hp × Nat} (G : GS g) (R : RR g h hm st) (I : RI hm) (st9 : st ≤ 600) (e : Ev d 35 (0, [some (.ref 208), some (.int (Int32.ofNat st)), none, none], [], h, fl_tot) r) : r = (some (.int (abM (PA hm) (qc g))), h, fl_tot) := y_findAble R.1.1.1 (by rw [R.1.1.2.1.2]; exact G.1.2.2.2) G.1.2.2.1 (hP_x G R I st9) e
theorem z_find {g h hm : Hp} {st d : Nat} {r : Option Value × Hp × Nat} (G : GS g) (R : RR g h hm st) (I : RI hm) (e : Ev d 155 (0, [some (.ref 223), none], [], hm, fl_tot) r) : ∃ lv, LV g hm lv ∧ r = (some (.int lv), hm, fl_tot) := by
  rcases z_leastAble R.1.2.1.1 (r4_of G R.1.2.1).1 G.1.2.2.1 (hP_z G R I) e with ⟨a, w⟩ | ⟨c, c1, c2, c3, w⟩
  · exact ⟨_, Or.inl ⟨rfl, a⟩, w⟩
  · exact ⟨_, Or.inr ⟨c, c1, c2, c3, rfl⟩, w⟩
theorem endeds {g h hm : Hp} {st c : Nat} (G : GS g) (R : RR g h hm st) (hc : c < qc g) : ((h.1 (148 + 12 * c) 3).toInt ≤ (h.1 (148 + 12 * c) 4).toInt ↔ (hm.1 227 c).toInt ≤ (hm.1 243 c).toInt) ∧ ((h.1 (148 + 12 * c) 3).toInt ≤ (h.1 (148 + 12 * c) 4).toInt ∨ ∃ i : Nat, i < 8 ∧ (h.1 (148 + 12 * c) 4).toInt = i ∧ (i : Int) < (h.1 (148 + 12 * c) 3).toInt) := by
  obtain ⟨⟨X, M, S15, K, hT⟩, RT, RO⟩ := R
  obtain ⟨i, CK, -⟩ := RO c hc
  have m8 := G.m8 hc
  have h1 := CK.1.2.2
  have e3 : (h.1 (148 + 12 * c) 3).toInt = qm g c := by
    rw [(X.2.2.2.2.1 c hc).1]
    exact (G.2.2 c hc).1
  have e27 : (hm.1 227 c).toInt = qm g c := by
    rw [M.2.2.2 227 c (by decide) (by decide)]
    exact (G.2.2 c hc).1
  rw [e3, e27, CK.1.1, CK.1.2.1]
  refine ⟨Iff.rfl, ?_⟩
  rw [i32n (by omega)]
  by_cases y : i = qm g c
  · exact Or.inl (by omega)
  · exact Or.inr ⟨i, by omega, rfl, by omega⟩
/-- the end of a run, both sides -/
theorem run_e {g h hm : Hp} {st d d2 : Nat} {oc ol o1 o2 : Option Value} {r r2 : Option Value × Hp × Nat} (G : GS g) (R : RR g h hm st) (hT : TInv h) (I : RI hm) (st9 : st ≤ 600) (e : Ev d 26 (92, [some (.ref 208), oc, some (.int (abM (PA hm) (qc g))), some (.int (Int32.ofNat st)), ol], [], h, fl_tot) r) (e2 : Ev d2 153 (74, [some (.ref 223), o1, o2], [.ref 223, .ref 223], hm, fl_tot) r2) : ∃ h' hm' v, r = (none, h', fl_tot) ∧ r2 = (some (.int v), hm', fl_tot) ∧ RR g h' hm' st ∧ TInv h' ∧ RI hm' ∧ (∀ j : Nat, h'.1 222 j = h.1 222 j) ∧ (∀ j : Nat, hm'.1 233 j = hm.1 233 j) ∧ h'.1 208 6 = v ∧ h'.1 208 5 = Int32.ofNat st ∧ hm'.1 223 14 = v ∧ hm'.1 223 13 = Int32.ofInt 1 := by
  have hTm := R.1.2.2.2.2
  obtain ⟨d3, v3, h3, n3, z3, ec3, e2⟩ := b_call (m2 := 178) (k := 0) (nL := 2) (as := [.ref 223]) (rest := [.ref 223]) (L := [some (.ref 223), none]) e2 (show fl_code 153 74 = some (18, [((178 : Nat) : Int), ((0 : Nat) : Int)], 77) by decide +kernel) rfl (by decide +kernel) rfl rfl rfl
  have Z := z_how R.1.2.1.1 (r4_of G R.1.2.1).1 G.1.2.2.1 (hP_z G R I) ec3
  -- what it comes to
  have fin : ∀ (v : Int32), 0 ≤ v.toInt ∧ v.toInt ≤ 2 → (v3, h3, n3) = (some (Value.int v), hm, fl_tot) → r = (none, fl_setI (fl_setI h 208 5 (Int32.ofNat st)) 208 6 v, fl_tot) → ∃ h' hm' v, r = (none, h', fl_tot) ∧ r2 = (some (.int v), hm', fl_tot) ∧ RR g h' hm' st ∧ TInv h' ∧ RI hm' ∧ (∀ j : Nat, h'.1 222 j = h.1 222 j) ∧ (∀ j : Nat, hm'.1 233 j = hm.1 233 j) ∧ h'.1 208 6 = v ∧ h'.1 208 5 = Int32.ofNat st ∧ hm'.1 223 14 = v ∧ hm'.1 223 13 = Int32.ofInt 1 := fun v bv w x => by
    obtain ⟨w3a, w3b, w3c⟩ := tri w
    rw [w3a, w3b, w3c] at e2
    have e2 : Ev d2 153 (77, [some (.ref 223), o1, o2], [.int v, .ref 223], hm, fl_tot) r2 := e2
    have Tm : TInv (fl_setI (fl_setI hm 223 14 v) 223 13 (Int32.ofInt 1)) := (hTm.w (r := 223) (k := 14) (lo := 0) (hi := 2) (by decide +kernel) bv).w (r := 223) (k := 13) (lo := 0) (hi := 1) (by decide +kernel) (by decide)
    have Tx : TInv (fl_setI (fl_setI h 208 5 (Int32.ofNat st)) 208 6 v) := (hT.w (r := 208) (k := 5) (lo := 0) (hi := 600) (by decide +kernel) (by rw [i32n (by omega)]; omega)).w (r := 208) (k := 6) (lo := 0) (hi := 2) (by decide +kernel) bv
    have F : Fq [] [13, 14] hm (fl_setI (fl_setI hm 223 14 v) 223 13 (Int32.ofInt 1)) := Fq.cells (fun K j h1 h2 _ => by rw [setI_no (by omega), setI_no (by omega)]) (fun k hk => by
      simp only [List.mem_cons, List.not_mem_nil, or_false, not_or] at hk
      rw [setI_no (by omega), setI_no (by omega)])
    refine ⟨_, _, v, x, z_run_6 R.1.2.1.1 e2, RR.out G R (fun r j z1 z2 => by rw [setI_no (by omega), setI_no (by omega)]) rfl (fun K j z => by rw [setI_no (by omega), setI_no (by omega)]) rfl Tm, Tx, I.fr F (by decide), fun j => by rw [setI_no (by omega), setI_no (by omega)], fun j => by rw [setI_no (by omega), setI_no (by omega)], setI_at, by rw [setI_no (by omega), setI_at], by rw [setI_no (by omega), setI_at], setI_at⟩
  rcases y_run_6 R.1.1.1 e with ⟨q, e⟩ | ⟨q, w⟩
  · -- nobody is able
    have nob : ∀ c, c < qc g → PA hm c = false := fun c hc => by
      cases y : PA hm c with
      | false => rfl
      | true =>
        exfalso
        -- the least that is able
        have K : ∀ m : Nat, (∀ j, j < m → PA hm j = false) ∨ ∃ c0, c0 < m ∧ PA hm c0 = true ∧ ∀ j, j < c0 → PA hm j = false := by
          intro m
          induction m with
          | zero => exact Or.inl fun j hj => by omega
          | succ m ih =>
            rcases ih with ih | ⟨c0, a1, a2, a3⟩
            · cases y2 : PA hm m with
              | true => exact Or.inr ⟨m, by omega, y2, ih⟩
              | false =>
                refine Or.inl fun j hj => ?_
                by_cases z : j = m
                · rw [z]; exact y2
                · exact ih j (by omega)
            · exact Or.inr ⟨c0, by omega, a2, a3⟩
        rcases K (qc g) with k | ⟨c0, a1, a2, a3⟩
        · rw [k c hc] at y
          cases y
        · exact (cho G.1.2.2.1 a1 a2 a3).2.1 q
    obtain ⟨d4, v4, h4, n4, z4, ec4, e⟩ := b_call (m2 := 80) (k := 0) (nL := 2) (as := [.ref 208]) (rest := [.ref 208]) (L := [some (.ref 208), none]) e (show fl_code 26 107 = some (18, [((80 : Nat) : Int), ((0 : Nat) : Int)], 110) by decide +kernel) rfl (by decide +kernel) rfl rfl rfl
    have S1 : SH (fl_setI h 208 5 (Int32.ofNat st)).2 := R.1.1.1
    have low : ∀ r j : Nat, ¬ (r = 208 ∧ j = 5) → (fl_setI h 208 5 (Int32.ofNat st)).1 r j = h.1 r j := fun r j z => setI_no z
    have E := y_ended (n := qc g) S1 (by rw [low _ _ (by omega), R.1.1.2.1.2]; exact G.1.2.2.2) G.1.2.2.1 (fun c hc => by
      rw [low _ _ (by omega), low _ _ (by omega)]
      exact (endeds G R hc).2) ec4
    have en : ∀ c : Nat, c < qc g → ((fl_setI h 208 5 (Int32.ofNat st)).1 (148 + 12 * c) 3).toInt ≤ ((fl_setI h 208 5 (Int32.ofNat st)).1 (148 + 12 * c) 4).toInt → (hm.1 227 c).toInt ≤ (hm.1 243 c).toInt := fun c hc z => by
      rw [low _ _ (by omega), low _ _ (by omega)] at z
      exact (endeds G R hc).1.mp z
    have ne : ∀ c : Nat, c < qc g → (hm.1 227 c).toInt ≤ (hm.1 243 c).toInt → ((fl_setI h 208 5 (Int32.ofNat st)).1 (148 + 12 * c) 3).toInt ≤ ((fl_setI h 208 5 (Int32.ofNat st)).1 (148 + 12 * c) 4).toInt := fun c hc z => by
      rw [low _ _ (by omega), low _ _ (by omega)]
      exact (endeds G R hc).1.mpr z
    rcases Z with ⟨⟨c, c1, c2⟩, -⟩ | ⟨-, Z⟩
    · rw [nob c c1] at c2
      cases c2
    · rcases E with ⟨a, w⟩ | ⟨⟨c, c1, c2⟩, w⟩
      · obtain ⟨w4a, w4b, w4c⟩ := tri w
        rw [w4a, w4b, w4c] at e
        have e : Ev d 26 (110, [some (.ref 208), oc, some (.int (abM (PA hm) (qc g))), some (.int (Int32.ofNat st)), ol], [.int (Int32.ofInt 1), .ref 208], fl_setI h 208 5 (Int32.ofNat st), fl_tot) r := e
        rcases y_run_7 S1 e with ⟨q, -⟩ | ⟨-, x⟩
        · exact absurd q (by decide)
        · rcases Z with ⟨-, z⟩ | ⟨⟨c, c1, c2⟩, -⟩
          · exact fin _ (by decide) z x
          · exact absurd (en c c1 (a c c1)) c2
      · obtain ⟨w4a, w4b, w4c⟩ := tri w
        rw [w4a, w4b, w4c] at e
        have e : Ev d 26 (110, [some (.ref 208), oc, some (.int (abM (PA hm) (qc g))), some (.int (Int32.ofNat st)), ol], [.int (Int32.ofInt 0), .ref 208], fl_setI h 208 5 (Int32.ofNat st), fl_tot) r := e
        rcases y_run_7 S1 e with ⟨-, x⟩ | ⟨q, -⟩
        · rcases Z with ⟨b, -⟩ | ⟨-, z⟩
          · exact absurd (ne c c1 (b c c1)) c2
          · exact fin _ (by decide) z x
        · exact absurd (by decide) q
  · rcases Z with ⟨-, z⟩ | ⟨a, -⟩
    · exact fin _ (by decide) z w
    · exfalso
      rw [abM_0 _ a] at q
      exact q (by decide)
/-- a step of the loop, from its chosen clerk on -/
theorem run_s {g h hm : Hp} {st w d d2 : Nat} {ol o1 o2 : Option Value} {r r2 : Option Value × Hp × Nat} (G : GS g) (R : RR g h hm st) (hT : TInv h) (I : RI hm) (C : CHr h hm) (st9 : st < 600) (hw : w < qc g) (aw : ableV hm (w : Int) = 1) (e : Ev d 26 (48, [some (.ref 208), some (.ref 222), some (.int (abM (PA hm) (qc g))), some (.int (Int32.ofNat st)), ol], [.int (Int32.ofNat w)], h, fl_tot) r) (e2 : Ev d2 153 (61, [some (.ref 223), o1, o2], [.int (Int32.ofNat w), .ref 223], hm, fl_tot) r2) : ∃ h' hm' lv, RR g h' hm' (st + 1) ∧ TInv h' ∧ RI hm' ∧ CHr h' hm' ∧ LV g hm' lv ∧ Ev d 26 (20, [some (.ref 208), some (.ref 222), some (.int (abM (PA hm') (qc g))), some (.int (Int32.ofNat (st + 1))), some (.int (Int32.ofNat w))], [], h', fl_tot) r ∧ Ev d2 153 (9, [some (.ref 223), some (.int lv), o2], [], hm', fl_tot) r2 := by
  have w5 := G.c5 hw
  have hTm := R.1.2.2.2.2
  have ewn : (Int32.ofNat w).toNatClampNeg = w := o32c (by omega)
  have ewi : (Int32.ofNat w).toInt = w := i32n (by omega)
  have esn : (Int32.ofNat st).toNatClampNeg = st := o32c (by omega)
  obtain ⟨-, -, e⟩ := y_run_3 R.1.1.1 e
  rw [ewn, esn] at e
  obtain ⟨h1, eh1⟩ : ∃ z, z = fl_setI (fl_setI h 211 st (abM (PA hm) (qc g))) 210 st (Int32.ofNat w) := ⟨_, rfl⟩
  rw [← eh1] at e
  have R1 : RR g h1 hm st := by
    rw [eh1]
    exact RR.out G R (fun r j z1 z2 => by rw [setI_no (by omega), setI_no (by omega)]) rfl (fun _ _ _ => rfl) rfl hTm
  have T1 : TInv h1 := by
    rw [eh1]
    exact (hT.full 211 _ _ (by decide +kernel) (by decide +kernel)).a 210 _ 0 4 (by decide +kernel) (by decide +kernel) (by rw [ewi]; omega)
  have C1 : ∀ j : Nat, h1.1 222 j = h.1 222 j := fun j => by rw [eh1, setI_no (by omega), setI_no (by omega)]
  obtain ⟨i, CK, hi, U, ab⟩ := able_1 G R1 (by omega) hw aw
  obtain ⟨d3, v3, h3, n3, z3, ec3, e⟩ := b_call (m2 := 42) (k := 2) (nL := 4) (as := [.ref 208, .ref (148 + 12 * w), .int (Int32.ofNat st)]) (rest := []) (L := [some (.ref 208), some (.ref (148 + 12 * w)), some (.int (Int32.ofNat st)), none]) e (show fl_code 26 77 = some (18, [((42 : Nat) : Int), ((2 : Nat) : Int)], 80) by decide +kernel) rfl (by decide +kernel) rfl rfl rfl
  obtain ⟨d4, v4, h4, n4, z4, ec4, e2⟩ := b_call (m2 := 158) (k := 1) (nL := 6) (as := [.ref 223, .int (Int32.ofNat w)]) (rest := []) (L := [some (.ref 223), some (.int (Int32.ofNat w)), none, none, none, none]) e2 (show fl_code 153 61 = some (18, [((158 : Nat) : Int), ((1 : Nat) : Int)], 64) by decide +kernel) rfl (by decide +kernel) rfl rfl rfl
  obtain ⟨h2, hm2, x1, x2, R2⟩ := RR.step G R1 T1 I hw hi CK U ab st9 ec3 ec4
  -- types, books, choices
  obtain ⟨m1, y1, y2, y3⟩ := x_do T1 w5 st9
  have k1 := y1 _ _ ec3
  rw [x1] at k1
  obtain ⟨-, k2, -⟩ := tri k1
  subst k2
  obtain ⟨b1, s1, s2, s3, s4, -⟩ := c_does2 hTm I (c := w) (by omega) (by rw [(r4_of G R.1.2.1).2]; omega) aw (by
    rw [show (15 : Int) = ((15 : Nat) : Int) from rfl, xrd (by decide) (by decide)]
    show (hm.1 223 15).toInt ≤ 599
    rw [R.1.2.2.1, i32n (by omega)]
    omega)
  have k3 := ev_det ec4 (show Ev 8 158 (0, [some (.ref 223), some (.int (Int32.ofNat w)), none, none, none, none], [], hm, fl_tot) _ from by
    have := s1 8 (Nat.le_refl _)
    rw [rv31] at this
    exact this)
  rw [x2] at k3
  obtain ⟨-, k4, -⟩ := tri k3
  subst k4
  have C2 : CHr h2 hm2 := fun j hj => by
    have f1 := (y3 222 (by decide +kernel)).1
    have f2 : hm2.1 233 j = hm.1 233 j := s3.fr.c (K := 41) (by decide) (by decide) (by decide) j
    rw [f2, congrFun f1 j, C1]
    exact C j hj
  -- on
  obtain ⟨w3a, w3b, w3c⟩ := tri x1
  rw [w3a, w3b, w3c] at e
  have e : Ev d 26 (80, [some (.ref 208), some (.ref 222), some (.int (abM (PA hm) (qc g))), some (.int (Int32.ofNat st)), some (.int (Int32.ofNat w))], [], h2, fl_tot) r := e
  obtain ⟨w4a, w4b, w4c⟩ := tri x2
  rw [w4a, w4b, w4c] at e2
  have e2 : Ev d2 153 (64, [some (.ref 223), o1, o2], [], hm2, fl_tot) r2 := e2
  have e := y_run_4 R2.1.1.1 e
  rw [o32 (by omega)] at e
  obtain ⟨d5, v5, h5, n5, z5, ec5, e⟩ := b_call (m2 := 35) (k := 1) (nL := 4) (as := [.ref 208, .int (Int32.ofNat (st + 1))]) (rest := []) (L := [some (.ref 208), some (.int (Int32.ofNat (st + 1))), none, none]) e (show fl_code 26 85 = some (18, [((35 : Nat) : Int), ((1 : Nat) : Int)], 88) by decide +kernel) rfl (by decide +kernel) rfl rfl rfl
  obtain ⟨w5a, w5b, w5c⟩ := tri (x_find G R2 s4 (by omega) ec5)
  rw [w5a, w5b, w5c] at e
  have e : Ev d 26 (88, [some (.ref 208), some (.ref 222), some (.int (abM (PA hm) (qc g))), some (.int (Int32.ofNat (st + 1))), some (.int (Int32.ofNat w))], [.int (abM (PA hm2) (qc g))], h2, fl_tot) r := e
  have e2 := z_run_4 R2.1.2.1.1 e2
  obtain ⟨d6, v6, h6, n6, z6, ec6, e2⟩ := b_call (m2 := 155) (k := 0) (nL := 2) (as := [.ref 223]) (rest := []) (L := [some (.ref 223), none]) e2 (show fl_code 153 65 = some (18, [((155 : Nat) : Int), ((0 : Nat) : Int)], 68) by decide +kernel) rfl (by decide +kernel) rfl rfl rfl
  obtain ⟨lv, L, w6⟩ := z_find G R2 s4 ec6
  obtain ⟨w6a, w6b, w6c⟩ := tri w6
  rw [w6a, w6b, w6c] at e2
  have e2 : Ev d2 153 (68, [some (.ref 223), o1, o2], [.int lv], hm2, fl_tot) r2 := e2
  exact ⟨h2, hm2, lv, R2, y2, s4, C2, L, y_run_5 R2.1.1.1 e, z_run_5 R2.1.2.1.1 e2⟩
theorem run_l {g : Hp} (G : GS g) : ∀ (f : Nat) {h hm : Hp} {st d d2 : Nat} {ol o2 : Option Value} {lv : Int32} {r r2 : Option Value × Hp × Nat}, st ≤ 600 → 600 - st < f → RR g h hm st → TInv h → RI hm → CHr h hm → LV g hm lv → Ev d 26 (20, [some (.ref 208), some (.ref 222), some (.int (abM (PA hm) (qc g))), some (.int (Int32.ofNat st)), ol], [], h, fl_tot) r → Ev d2 153 (9, [some (.ref 223), some (.int lv), o2], [], hm, fl_tot) r2 → ∃ h' hm' v st', st' ≤ 600 ∧ r = (none, h', fl_tot) ∧ r2 = (some (.int v), hm', fl_tot) ∧ RR g h' hm' st' ∧ TInv h' ∧ RI hm' ∧ CHr h' hm' ∧ h'.1 208 6 = v ∧ h'.1 208 5 = Int32.ofNat st' ∧ hm'.1 223 14 = v ∧ hm'.1 223 13 = Int32.ofInt 1
  | 0, _, _, _, _, _, _, _, _, _, _, _, hf, _, _, _, _, _, _, _ => by omega
  | f + 1, h, hm, st, d, d2, ol, o2, lv, r, r2, st9, hf, R, hT, I, C, L, e, e2 => by
    have hTm := R.1.2.2.2.2
    have est : (Int32.ofNat st).toInt = st := i32n (by omega)
    have esn : (Int32.ofNat st).toNatClampNeg = st := o32c (by omega)
    have fin : ∀ {oc' ol' o1' o2' : Option Value}, Ev d 26 (92, [some (.ref 208), oc', some (.int (abM (PA hm) (qc g))), some (.int (Int32.ofNat st)), ol'], [], h, fl_tot) r → Ev d2 153 (74, [some (.ref 223), o1', o2'], [.ref 223, .ref 223], hm, fl_tot) r2 → ∃ h' hm' v st', st' ≤ 600 ∧ r = (none, h', fl_tot) ∧ r2 = (some (.int v), hm', fl_tot) ∧ RR g h' hm' st' ∧ TInv h' ∧ RI hm' ∧ CHr h' hm' ∧ h'.1 208 6 = v ∧ h'.1 208 5 = Int32.ofNat st' ∧ hm'.1 223 14 = v ∧ hm'.1 223 13 = Int32.ofInt 1 := fun a b => by
      obtain ⟨h', hm', v, x1, x2, x3, x4, x5, x6, x7, x8⟩ := run_e G R hT I st9 a b
      exact ⟨h', hm', v, st, st9, x1, x2, x3, x4, x5, fun j hj => by rw [x6, x7]; exact C j hj, x8⟩
    have go : ∀ {w : Nat} {ol' o1' o2' : Option Value}, st < 600 → w < qc g → ableV hm (w : Int) = 1 → Ev d 26 (48, [some (.ref 208), some (.ref 222), some (.int (abM (PA hm) (qc g))), some (.int (Int32.ofNat st)), ol'], [.int (Int32.ofNat w)], h, fl_tot) r → Ev d2 153 (61, [some (.ref 223), o1', o2'], [.int (Int32.ofNat w), .ref 223], hm, fl_tot) r2 → ∃ h' hm' v st', st' ≤ 600 ∧ r = (none, h', fl_tot) ∧ r2 = (some (.int v), hm', fl_tot) ∧ RR g h' hm' st' ∧ TInv h' ∧ RI hm' ∧ CHr h' hm' ∧ h'.1 208 6 = v ∧ h'.1 208 5 = Int32.ofNat st' ∧ hm'.1 223 14 = v ∧ hm'.1 223 13 = Int32.ofInt 1 := fun s6 hw aw a b => by
      obtain ⟨h', hm', lv', x1, x2, x3, x4, x5, x6, x7⟩ := run_s G R hT I C s6 hw aw a b
      exact run_l G f (by omega) (by omega) x1 x2 x3 x4 x5 x6 x7
    have Z := z_run_l R.1.2.1.1 e2
    rw [R.1.2.2.1, esn, est] at Z
    have n4 := (r4_of G R.1.2.1).1
    rw [n4] at Z
    rcases L with ⟨L1, L2⟩ | ⟨c0, c1, c2, c3, L1⟩
    · -- nobody
      have a0 : (abM (PA hm) (qc g)).toInt = 0 := by rw [abM_0 _ L2]; decide
      have zz : Ev d2 153 (74, [some (.ref 223), some (.int lv), o2], [.ref 223, .ref 223], hm, fl_tot) r2 := by
        rw [L1] at Z ⊢
        rcases Z with ⟨-, z⟩ | ⟨q, -⟩ | ⟨q, -⟩ | ⟨q, -⟩ | ⟨q, -⟩
        · exact z
        all_goals exact absurd (by decide) q
      rcases y_run_2 R.1.1.1 e with ⟨-, e⟩ | ⟨-, e⟩
      · exact fin e zz
      · rcases y_run_c R.1.1.1 e with ⟨-, e⟩ | ⟨q, -⟩ | ⟨q, -⟩
        · exact fin e zz
        · exact absurd a0 q
        · exact absurd a0 q
    · have c5 := G.c5 c1
      obtain ⟨⟨b, b32, eb⟩, an, ac⟩ := cho G.1.2.2.1 c1 c2 c3
      have lvi : lv.toInt = c0 := by rw [L1, i32n (by omega)]
      by_cases s6 : st < 600
      · rcases y_run_2 R.1.1.1 e with ⟨q, -⟩ | ⟨-, e⟩
        · omega
        · have len : (Int32.ofNat (fl_len h 222)).toInt = 600 := by
            rw [show fl_len h 222 = 600 from rfl]
            decide
          rcases y_run_c R.1.1.1 e with ⟨q, -⟩ | ⟨-, q, -⟩ | ⟨-, -, e⟩
          · exact absurd q an
          · omega
          · rw [esn, C st s6] at e
            have b41 : -1 ≤ (hm.1 233 st).toInt ∧ (hm.1 233 st).toInt ≤ 4 := TI.rng hTm 41 600 (-1) 4 (by decide +kernel) (by decide) (by decide) (i := st) s6
            obtain ⟨x, hx, ex⟩ : ∃ x : Nat, x < 6 ∧ (hm.1 233 st).toInt = (x : Int) - 1 := ⟨((hm.1 233 st).toInt + 1).toNat, by omega, by omega⟩
            have ex2 : hm.1 233 st = Int32.ofInt ((x : Int) - 1) := Int32.toInt_inj.mp (by rw [ex, kc (by omega) (by omega)])
            obtain ⟨d3, v3, h3, n3, z3, ec3, e⟩ := b_call (m2 := 41) (k := 2) (nL := 3) (as := [.int (hm.1 233 st), .int (abM (PA hm) (qc g))]) (rest := []) (L := [some (.int (hm.1 233 st)), some (.int (abM (PA hm) (qc g))), none]) e (show fl_code 26 45 = some (19, [((41 : Nat) : Int), ((2 : Nat) : Int)], 48) by decide +kernel) rfl (by decide +kernel) rfl rfl rfl
            rw [ex2, eb] at ec3
            have w3 := x_choose1 hx b32 ec3
            rw [← eb, ac x hx] at w3
            obtain ⟨w3a, w3b, w3c⟩ := tri w3
            rw [w3a, w3b, w3c] at e
            have e : Ev d 26 (48, [some (.ref 208), some (.ref 222), some (.int (abM (PA hm) (qc g))), some (.int (Int32.ofNat st)), ol], [.int (if 1 ≤ x ∧ x - 1 < qc g ∧ PA hm (x - 1) = true then Int32.ofNat (x - 1) else Int32.ofNat c0)], h, fl_tot) r := e
            rw [ex] at Z
            rcases Z with ⟨q, -⟩ | ⟨-, q, -⟩ | ⟨-, -, q, z⟩ | ⟨-, -, q, q2, z⟩ | ⟨-, -, q, q2, z⟩
            · omega
            · omega
            · rw [if_neg (by omega)] at e
              rw [L1] at z
              exact go s6 c1 (PA_1 c2) e z
            · rw [if_neg (by omega)] at e
              rw [L1] at z
              exact go s6 c1 (PA_1 c2) e z
            · have x1 : 1 ≤ x ∧ x - 1 < qc g := by omega
              have ex3 : hm.1 233 st = Int32.ofNat (x - 1) := by
                rw [ex2, ← ofnI, show (((x - 1 : Nat)) : Int) = (x : Int) - 1 by omega]
              rw [ex3] at z
              obtain ⟨d4, v4, h4, n4, z4, ec4, z⟩ := b_call (m2 := 156) (k := 1) (nL := 5) (as := [.ref 223, .int (Int32.ofNat (x - 1))]) (rest := [.ref 223]) (L := [some (.ref 223), some (.int (Int32.ofNat (x - 1))), none, none, none]) z (show fl_code 153 50 = some (18, [((156 : Nat) : Int), ((1 : Nat) : Int)], 53) by decide +kernel) rfl (by decide +kernel) rfl rfl rfl
              have w4 := hP_z G R I (x - 1) x1.2 _ _ ec4
              cases hb : PA hm (x - 1)
              · rw [hb, if_neg (by decide)] at w4
                rw [if_neg (fun y => by rw [hb] at y; exact absurd y.2.2 (by decide))] at e
                obtain ⟨w4a, w4b, w4c⟩ := tri w4
                rw [w4a, w4b, w4c] at z
                have z : Ev d2 153 (53, [some (.ref 223), some (.int lv), some (.int (Int32.ofNat (x - 1)))], [.int (Int32.ofInt 0), .ref 223], hm, fl_tot) r2 := z
                rcases z_run_3 R.1.2.1.1 z with ⟨-, z⟩ | ⟨q, -⟩
                · rw [L1] at z
                  exact go s6 c1 (PA_1 c2) e z
                · exact absurd (by decide) q
              · rw [hb, if_pos rfl] at w4
                rw [if_pos ⟨x1.1, x1.2, hb⟩] at e
                obtain ⟨w4a, w4b, w4c⟩ := tri w4
                rw [w4a, w4b, w4c] at z
                have z : Ev d2 153 (53, [some (.ref 223), some (.int lv), some (.int (Int32.ofNat (x - 1)))], [.int (Int32.ofInt 1), .ref 223], hm, fl_tot) r2 := z
                rcases z_run_3 R.1.2.1.1 z with ⟨q, -⟩ | ⟨-, z⟩
                · exact absurd q (by decide)
                · exact go s6 x1.2 (PA_1 hb) e z
      · have zz : Ev d2 153 (74, [some (.ref 223), some (.int lv), o2], [.ref 223, .ref 223], hm, fl_tot) r2 := by
          rcases Z with ⟨q, -⟩ | ⟨-, -, z⟩ | ⟨-, q, -⟩ | ⟨-, q, -⟩ | ⟨-, q, -⟩
          · omega
          · exact z
          all_goals omega
        rcases y_run_2 R.1.1.1 e with ⟨-, e⟩ | ⟨q, -⟩
        · exact fin e zz
        · omega
