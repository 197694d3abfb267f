
set_option maxRecDepth 20000
/-! A RUN, BOTH SIDES -/
theorem TBv.eq {h h0 h' : Hp} {t : Nat} (ht : t < 6) (f : ∀ r j : Nat, r < 208 → h'.1 r j = h0.1 r j) (V : TBv h h0 t) : TBv h h' t := by
  obtain ⟨⟨v1, v2, v3, v4⟩, v5, v6, ⟨v7, v8, v9⟩, v10⟩ := V
  refine ⟨⟨?_, ?_, ?_, ?_⟩, fun j hj => ?_, fun m hm => ?_, ⟨?_, ?_, ?_⟩, fun z j hj => ?_⟩
  · rw [f _ _ (by omega)]; exact v1
  · rw [f _ _ (by omega)]; exact v2
  · rw [f _ _ (by omega)]; exact v3
  · rw [f _ _ (by omega)]; exact v4
  · rw [f _ _ (by omega)]; exact v5 j hj
  · rw [f _ _ (by omega)]; exact v6 m hm
  · rw [f _ _ (by omega)]; exact v7
  · rw [f _ _ (by omega)]; exact v8
  · rw [f _ _ (by omega)]; exact v9
  · rw [f _ _ (by omega)]; exact v10 z j hj
theorem ACv.eq {g h h' : Hp} {c i : Nat} (hc : c < 5) (hi : i < 8) (f : ∀ r j : Nat, r < 208 → h'.1 r j = h.1 r j) (f2 : h'.2 = h.2) (V : ACv g h c i) : ACv g h' c i := by
  obtain ⟨v1, v2, v3, v4, v5, v6, v7⟩ := V
  exact ⟨by rw [f2]; exact v1, (f _ _ (by omega)).trans v2, (f _ _ (by omega)).trans v3, (f _ _ (by omega)).trans v4, (f _ _ (by omega)).trans v5, (f _ _ (by omega)).trans v6, (f _ _ (by omega)).trans v7⟩
/-- the class's steps of a run give what the reference's give -/
theorem run_both {g h hm : Hp} {d d2 : Nat} {r r2 : Option Value × Hp × Nat} (G : GS g) (X : SX g h) (M : SM g hm) (hT : TInv h) (hTm : TInv hm) (V : SV hm) (C0 : CHr h hm) (stat : ∀ t : Nat, t < qt g → (g.1 224 t).toInt = 5 → ∀ j : Nat, j < 32 → h.1 (9 + 24 * t) j = hm.1 234 (32 * t + j)) (e : Ev d 26 (0, [some (.ref 208), some (.ref 222), none, none, none], [], h, fl_tot) r) (e2 : Ev d2 153 (0, [some (.ref 223), none, none], [], hm, fl_tot) r2) : ∃ h' hm' v st', st' ≤ 600 ∧ r = (none, h', fl_tot) ∧ r2 = (some (.int v), hm', fl_tot) ∧ RR g h' hm' st' ∧ TInv h' ∧ RI hm' ∧ CHr h' hm' ∧ h'.1 208 6 = v ∧ h'.1 208 5 = Int32.ofNat st' ∧ hm'.1 223 14 = v ∧ hm'.1 223 13 = Int32.ofInt 1 := by
  have t6 := G.1.1
  have e := y_run_0 X.1 e
  obtain ⟨d3, v3, h3, n3, z3, ec3, e⟩ := b_call (m2 := 27) (k := 0) (nL := 4) (as := [.ref 1]) (rest := []) (L := [some (.ref 1), none, none, none]) e (show fl_code 26 4 = some (18, [((27 : Nat) : Int), ((0 : Nat) : Int)], 7) by decide +kernel) rfl (by decide +kernel) rfl rfl rfl
  obtain ⟨h1, a1, a2, a3, a4, a5, a6⟩ := x_begins G X hT ec3
  obtain ⟨w1, w2, w3⟩ := tri a1
  rw [w1, w2, w3] at e
  have e : Ev d 26 (7, [some (.ref 208), some (.ref 222), none, none, none], [], h1, fl_tot) r := e
  have e := y_run_1 a3.1 e
  obtain ⟨h2, eh⟩ : ∃ z, z = fl_setI h1 208 4 (Int32.ofInt 0) := ⟨_, rfl⟩
  rw [← eh] at e
  have T2 : TInv h2 := by rw [eh]; exact a2.w (r := 208) (k := 4) (lo := 0) (hi := 80) (by decide +kernel) (by decide)
  have lo : ∀ r j : Nat, ¬ (r = 208 ∧ j = 4) → h2.1 r j = h1.1 r j := fun r j z => by rw [eh]; exact setI_no z
  have h22 : h2.2 = h1.2 := by rw [eh]; rfl
  have X2 : SX g h2 := SX.low G h22 (fun r j z => lo r j (by omega)) a3
  -- the reference
  have e2 := z_run_0 M.1 e2
  obtain ⟨d4, v4, h4, n4, z4, ec4, e2⟩ := b_call (m2 := 154) (k := 0) (nL := 2) (as := [.ref 223]) (rest := []) (L := [some (.ref 223), none]) e2 (show fl_code 153 1 = some (18, [((154 : Nat) : Int), ((0 : Nat) : Int)], 4) by decide +kernel) rfl (by decide +kernel) rfl rfl rfl
  obtain ⟨hm1, b1, B⟩ := z_begins M.1 ec4
  obtain ⟨hq, c1, c2, c3⟩ := c_begins hTm
  have k := ev_det ec4 (show Ev 3 154 (0, [some (.ref 223), none], [], hm, fl_tot) _ from by
    have := c1 3 (Nat.le_refl _)
    rw [rv31] at this
    exact this)
  rw [b1] at k
  obtain ⟨-, k2, -⟩ := tri k
  subst k2
  have I1 : RI hm1 := RI.begins hTm V c3
  obtain ⟨w1, w2, w3⟩ := tri b1
  rw [w1, w2, w3] at e2
  have e2 : Ev d2 153 (4, [some (.ref 223), none, none], [], hm1, fl_tot) r2 := e2
  have R : RR g h2 hm1 0 := RR.zero G X2 (fun t ht => (a4 t ht).eq (by omega) fun r j hr => lo r j (by omega)) (fun c hc => ⟨by rw [lo _ _ (by have := G.c5 hc; omega)]; exact (a5 c hc).1, fun i hi => ((a5 c hc).2 i hi).eq (G.c5 hc) (G.i8 hc hi) (fun r j hr => lo r j (by omega)) h22⟩) (by rw [eh, setI_at]) M B c2.1 X stat
  have C1 : CHr h2 hm1 := fun j hj => by
    rw [lo _ _ (by omega), a6 _ _ (by omega), B.2.2.2.1 233 j (by decide) (by decide)]
    exact C0 j hj
  -- who is able first
  obtain ⟨d5, v5, h5, n5, z5, ec5, e⟩ := b_call (m2 := 35) (k := 1) (nL := 4) (as := [.ref 208, .int (Int32.ofInt 0)]) (rest := []) (L := [some (.ref 208), some (.int (Int32.ofInt 0)), none, none]) e (show fl_code 26 14 = some (18, [((35 : Nat) : Int), ((1 : Nat) : Int)], 17) by decide +kernel) rfl (by decide +kernel) rfl rfl rfl
  obtain ⟨w1, w2, w3⟩ := tri (x_find (st := 0) G R I1 (by omega) ec5)
  rw [w1, w2, w3] at e
  have e : Ev d 26 (17, [some (.ref 208), some (.ref 222), none, none, none], [.int (abM (PA hm1) (qc g))], h2, fl_tot) r := e
  have e : Ev d 26 (20, [some (.ref 208), some (.ref 222), some (.int (abM (PA hm1) (qc g))), some (.int (Int32.ofInt 0)), none], [], h2, fl_tot) r := e.bk [((3, [2, 0], 18), 0), ((1, [0], 19), 0), ((3, [3, 0], 20), 0)] [] (by decide +kernel) trivial rfl
  have e2 := z_run_1 R.1.2.1.1 e2
  obtain ⟨d6, v6, h6, n6, z6, ec6, e2⟩ := b_call (m2 := 155) (k := 0) (nL := 2) (as := [.ref 223]) (rest := []) (L := [some (.ref 223), none]) e2 (show fl_code 153 5 = some (18, [((155 : Nat) : Int), ((0 : Nat) : Int)], 8) by decide +kernel) rfl (by decide +kernel) rfl rfl rfl
  obtain ⟨lv, L, w6⟩ := z_find G R I1 ec6
  obtain ⟨w1, w2, w3⟩ := tri w6
  rw [w1, w2, w3] at e2
  have e2 : Ev d2 153 (8, [some (.ref 223), none, none], [.int lv], hm1, fl_tot) r2 := e2
  exact run_l G 601 (st := 0) (by omega) (by omega) R T2 I1 C1 L e (z_run_2 R.1.2.1.1 e2)
