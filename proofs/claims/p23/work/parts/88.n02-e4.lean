
set_option maxRecDepth 20000
def IVD (g hm : Hp) : Prop := ∀ c j : Nat, c < 5 → j < 8 → ¬ (c < qc g ∧ j < qm g c) → hm.1 238 (8 * c + j) = Int32.ofInt 0 ∧ hm.1 239 (8 * c + j) = Int32.ofInt 6
/-! A RUN OF EXPLORE'S, with the answers that no act has -/
abbrev exK2 : List Nat := [43, 44, 45, 46, 47, 48, 49, 50, 51, 52, 53, 54, 55, 56, 57, 58, 59, 60, 61, 62, 63, 64, 65, 66, 67, 68, 69, 70, 71, 72, 73, 74, 75, 76, 77, 78, 79, 80, 82, 83, 84, 85, 86, 87, 88, 89, 90, 91]
def EXQ (a b g h hm : Hp) (st fo : Nat) : Prop := EXR b g h hm st fo ∧ IVD g hm ∧ Fq exK2 exFs a hm
theorem ex_sQ {a0 b g h hm : Hp} {st fo d d2 : Nat} {ol : Option Value} {mo rs mr W : Int32} {r r2 : Option Value × Hp × Nat} (G : GS g) (E : EXQ a0 b g h hm st fo) (st9 : st < 600) (hW : 0 ≤ W.toInt ∧ W.toInt < cntA hm 0) (hf : st < fo → W = hm.1 282 st) (hn : fo ≤ st → W = Int32.ofInt 0) (e : Ev d 26 (45, [some (.ref 208), some (.ref 219), some (.int (abM (PA hm) (qc g))), some (.int (Int32.ofNat st)), ol], [.int (abM (PA hm) (qc g)), .int (h.1 219 st)], h, fl_tot) r) (e2 : Ev d2 206 (138, [some (.ref 223), some (.int mo), some (.int (Int32.ofNat fo)), some (.int rs), some (.int mr), some (.int (Int32.ofInt (cntA hm 0))), some (.int (Int32.ofNat st))], [.int W, .ref 223, .ref 223], fl_setI (fl_setI hm 282 st W) 283 st (Int32.ofInt (cntA hm 0)), fl_tot) r2) : ∃ (h' hm' : Hp) (ol' : Option Value), EXQ a0 b g h' hm' (st + 1) fo ∧ Ev d 26 (20, [some (.ref 208), some (.ref 219), some (.int (abM (PA hm') (qc g))), some (.int (Int32.ofNat (st + 1))), ol'], [], h', fl_tot) r ∧ Ev d2 206 (75, [some (.ref 223), some (.int mo), some (.int (Int32.ofNat fo)), some (.int rs), some (.int mr), some (.int (Int32.ofInt (cntA hm' 0))), some (.int (Int32.ofNat st))], [], hm', fl_tot) r2 := by
  obtain ⟨⟨R, hT, I, Re, A, Pl, Fb⟩, IV, FA⟩ := E
  have hTm := R.1.2.2.2.2
  have r4 := (r4_of G R.1.2.1).2
  have q5 : qc g ≤ 5 := G.1.2.2.1
  have cb := cntA_bd hm 0
  obtain ⟨hm1, em1⟩ : ∃ z, z = fl_setI (fl_setI hm 282 st W) 283 st (Int32.ofInt (cntA hm 0)) := ⟨_, rfl⟩
  rw [← em1] at e2
  have low1 : ∀ K j : Nat, ¬ (K = 282 ∨ K = 283) → hm1.1 K j = hm.1 K j := fun K j z => by rw [em1, setI_no (by omega), setI_no (by omega)]
  have Tm1 : TInv hm1 := by
    rw [em1]
    exact (hTm.a 282 _ 0 4 (by decide +kernel) (by decide +kernel) (by omega)).a 283 _ 0 5 (by decide +kernel) (by decide +kernel) (by rw [kc (by omega) (by omega)]; omega)
  have m90 : ∀ j : Nat, hm1.1 282 j = if j = st then W else hm.1 282 j := fun j => by
    rw [em1, setI_no (by omega)]
    by_cases z : j = st
    · rw [if_pos z, z, setI_at]
    · rw [if_neg z, setI_no (by omega)]
  have m91 : hm1.1 283 st = Int32.ofInt (cntA hm 0) := by rw [em1, setI_at]
  have m91' : ∀ j : Nat, j ≠ st → hm1.1 283 j = hm.1 283 j := fun j z => by rw [em1, setI_no (by omega), setI_no (by omega)]
  have F1 : Fq [90, 91] [] hm hm1 := Fq.cells (fun K j h1 h2 h3 => low1 _ _ (by
    simp only [List.mem_cons, List.not_mem_nil, or_false, not_or] at h3
    omega)) (fun k _ => low1 _ _ (by omega))
  have Rm : RR g h hm1 st := RR.out2 G R (fun _ _ _ => rfl) rfl (fun K j k1 k2 => low1 K j (by omega)) (by rw [em1]; rfl) Tm1
  have I1 : RI hm1 := I.fr F1 rfl
  have chs : ∀ i : Int, 0 ≤ i → i < st → rd 90 i hm1 = rd 90 i hm := fun i q1 q2 => by
    obtain ⟨k, rfl⟩ : ∃ k : Nat, i = (k : Int) := ⟨i.toNat, by omega⟩
    rw [rd282, rd282, m90, if_neg (by omega)]
  have Re1 : Rea b (chF hm1) st hm1 := (Re.fr Tm1 (F1.wide rfl rfl)).ch chs
  have Re0 : Rea b (chF hm1) st hm := Re.ch chs
  have ec : cntA hm1 0 = cntA hm 0 := Rea.cnt Re0 Re1
  have r41 : rd 31 4 hm1 = qc g := (F1.f 4 rfl).trans r4
  have eab : abM (PA hm1) (qc g) = abM (PA hm) (qc g) := abM_congr _ fun j hj => by
    show decide (ableV hm1 (j : Int) = 1) = decide (ableV hm (j : Int) = 1)
    rw [(Re0.le Re1).able hTm I (c := (j : Int)) (by omega) (by omega)]
  have A1 : ∀ c, 0 ≤ c → c < rd 31 4 hm1 → AbPre hm1 c := fun c q1 q2 => I1.ab Tm1 q1 q2
  obtain ⟨v', v1, v2⟩ := c_ableAt Tm1 A1 (i := W.toInt) (by omega) (by rw [ec]; exact hW.2)
  obtain ⟨v, rfl⟩ : ∃ v : Nat, v' = (v : Int) := ⟨v'.toNat, by have := v1.1; omega⟩
  obtain ⟨w1, w2, w3, w4⟩ := nth_lt r41 q5 v1
  have w5 : v < 5 := by omega
  -- the reference: who that is
  obtain ⟨d3, v3, h3, n3, z3, ec3, e2⟩ := b_call (m2 := 208) (k := 1) (nL := 4) (as := [.ref 223, .int W]) (rest := [.ref 223]) (L := [some (.ref 223), some (.int W), none, none]) e2 (show fl_code 206 138 = some (18, [((208 : Nat) : Int), ((1 : Nat) : Int)], 141) by decide +kernel) rfl (by decide +kernel) rfl rfl rfl
  obtain ⟨x1, x2, x3⟩ := tri (ev_det ec3 (show Ev 6 208 (0, [some (.ref 223), some (.int W), none, none], [], hm1, fl_tot) _ from by
    have := v2 6 (Nat.le_refl _)
    rw [rv31, ← ivc1] at this
    exact this))
  rw [x1, x2, x3] at e2
  have e2 : Ev d2 206 (141, [some (.ref 223), some (.int mo), some (.int (Int32.ofNat fo)), some (.int rs), some (.int mr), some (.int (Int32.ofInt (cntA hm 0))), some (.int (Int32.ofNat st))], [.int (Int32.ofNat v), .ref 223], hm1, fl_tot) r2 := e2
  -- the class: the same
  rw [← eab] at e
  obtain ⟨d4, v4, h4, n4, z4, ec4, e⟩ := b_call (m2 := 41) (k := 2) (nL := 3) (as := [.int (h.1 219 st), .int (abM (PA hm1) (qc g))]) (rest := []) (L := [some (.int (h.1 219 st)), some (.int (abM (PA hm1) (qc g))), none]) e (show fl_code 26 45 = some (19, [((41 : Nat) : Int), ((2 : Nat) : Int)], 48) by decide +kernel) rfl (by decide +kernel) rfl rfl rfl
  have hp : h.1 219 st = Int32.ofNat v ∨ (h.1 219 st = Int32.ofInt (-1) ∧ W.toInt = 0) := by
    by_cases z : st < fo
    · obtain ⟨gj, c, a1, a2, a3, a4, a5⟩ := Pl.1 st (Nat.le_refl _) z
      have a1' := a1.ch chs
      have gi := a1'.inv
      rw [rd282, ← hf z] at a3
      have q := isNth_eq gi.1 (by rw [r41, a2]) (fun c c1 c2 => (a1'.le Re1).able gi.1 gi.2 c1 c2) a3 v1
      rw [a4, show c = v by omega]
      exact Or.inl rfl
    · refine Or.inr ⟨Pl.2 st (Nat.le_refl _) (by omega) st9, ?_⟩
      rw [hn (by omega)]
      rfl
  obtain ⟨x1, x2, x3⟩ := tri (pick Tm1 r41 q5 v1 hp ec4)
  rw [x1, x2, x3] at e
  have e : Ev d 26 (48, [some (.ref 208), some (.ref 219), some (.int (abM (PA hm1) (qc g))), some (.int (Int32.ofNat st)), ol], [.int (Int32.ofNat v)], h, fl_tot) r := e
  have ewn : (Int32.ofNat v).toNatClampNeg = v := o32c (by omega)
  have ewi : (Int32.ofNat v).toInt = v := i32n (by omega)
  have esn : (Int32.ofNat st).toNatClampNeg = st := o32c (by omega)
  obtain ⟨-, -, e⟩ := y_run_3 R.1.1.1 e
  rw [ewn, esn] at e
  obtain ⟨h1, eh1⟩ : ∃ z, z = fl_setI (fl_setI h 211 st (abM (PA hm1) (qc g))) 210 st (Int32.ofNat v) := ⟨_, rfl⟩
  rw [← eh1] at e
  have R1 : RR g h1 hm1 st := by
    rw [eh1]
    exact RR.out2 G Rm (fun r j z => by rw [setI_no (by omega), setI_no (by omega)]) rfl (fun _ _ _ _ => rfl) rfl Tm1
  have T1 : TInv h1 := by
    rw [eh1]
    exact (hT.full 211 _ _ (by decide +kernel) (by decide +kernel)).a 210 _ 0 4 (by decide +kernel) (by decide +kernel) (by rw [ewi]; omega)
  obtain ⟨i, CK, hi, U, ab⟩ := able_1 G R1 (by omega) w1 (PA_1 w2)
  obtain ⟨d5, v5, h5, n5, z5, ec5, e⟩ := b_call (m2 := 42) (k := 2) (nL := 4) (as := [.ref 208, .ref (148 + 12 * v), .int (Int32.ofNat st)]) (rest := []) (L := [some (.ref 208), some (.ref (148 + 12 * v)), some (.int (Int32.ofNat st)), none]) e (show fl_code 26 77 = some (18, [((42 : Nat) : Int), ((2 : Nat) : Int)], 80) by decide +kernel) rfl (by decide +kernel) rfl rfl rfl
  obtain ⟨d6, v6, h6, n6, z6, ec6, e2⟩ := b_call (m2 := 158) (k := 1) (nL := 6) (as := [.ref 223, .int (Int32.ofNat v)]) (rest := []) (L := [some (.ref 223), some (.int (Int32.ofNat v)), none, none, none, none]) e2 (show fl_code 206 141 = some (18, [((158 : Nat) : Int), ((1 : Nat) : Int)], 144) by decide +kernel) rfl (by decide +kernel) rfl rfl rfl
  obtain ⟨h2, hm2, y1, y2, R2⟩ := RR.step G R1 T1 I1 w1 hi CK U ab st9 ec5 ec6
  obtain ⟨m1, u1, u2, u3⟩ := x_do T1 w5 st9
  have k1 := u1 _ _ ec5
  rw [y1] at k1
  obtain ⟨-, k2, -⟩ := tri k1
  subst k2
  obtain ⟨b1, s1, s2, s3, s4, -⟩ := c_does2 Tm1 I1 (c := (v : Int)) (by omega) (by omega) (PA_1 w2) (by
    rw [rd15, Rm.1.2.2.1, i32n (by omega)]
    omega)
  have k3 := ev_det ec6 (show Ev 8 158 (0, [some (.ref 223), some (.int (Int32.ofNat v)), none, none, none, none], [], hm1, fl_tot) _ from by
    have := s1 8 (Nat.le_refl _)
    rw [rv31] at this
    exact this)
  rw [y2] at k3
  obtain ⟨-, k4, -⟩ := tri k3
  subst k4
  have DF := s3.fr
  obtain ⟨b3, u4, u5⟩ := c_does2K Tm1 I1 (c := (v : Int)) (by omega) (by omega) (PA_1 w2) (by
    rw [rd15, Rm.1.2.2.1, i32n (by omega)]
    omega)
  have k5 := ev_det ec6 (show Ev 8 158 (0, [some (.ref 223), some (.int (Int32.ofNat v)), none, none, none, none], [], hm1, fl_tot) _ from by
    have := u4 8 (Nat.le_refl _)
    rw [rv31] at this
    exact this)
  rw [y2] at k5
  obtain ⟨-, k6, -⟩ := tri k5
  rw [← k6] at u5
  have IV2 : IVD g hm2 := fun c' j c5 j8 n => by
    have now : rd 51 (v : Int) hm1 = i := by
      have a : rd 51 (v : Int) hm1 = (hm1.1 243 v).toInt := xrd (by decide) (by decide) v hm1
      have i9 := G.i8 w1 hi
      rw [a, CK.1.2.1, i32n (by omega)]
    rw [now] at u5
    have i9 := G.i8 w1 hi
    have ne : ((8 * c' + j : Nat) : Int) ≠ 8 * (v : Int) + (i : Int) := fun z => n (by
      have z1 : c' = v := by omega
      have z2 : j = i := by omega
      rw [z1, z2]
      exact ⟨w1, hi⟩)
    obtain ⟨p1, p2⟩ := u5 ((8 * c' + j : Nat) : Int) (by omega) ne
    have a1 : ∀ z : Hp, rd 46 ((8 * c' + j : Nat) : Int) z = (z.1 238 (8 * c' + j)).toInt := fun z => xrd (by decide) (by decide) _ z
    have a2 : ∀ z : Hp, rd 47 ((8 * c' + j : Nat) : Int) z = (z.1 239 (8 * c' + j)).toInt := fun z => xrd (by decide) (by decide) _ z
    rw [a1, a1] at p1
    rw [a2, a2] at p2
    obtain ⟨v1', v2'⟩ := IV c' j c5 j8 n
    rw [Int32.toInt_inj.mp p1, Int32.toInt_inj.mp p2, low1 _ _ (by omega), low1 _ _ (by omega)]
    exact ⟨v1', v2'⟩
  -- on
  obtain ⟨x1, x2, x3⟩ := tri y1
  rw [x1, x2, x3] at e
  have e : Ev d 26 (80, [some (.ref 208), some (.ref 219), some (.int (abM (PA hm1) (qc g))), some (.int (Int32.ofNat st)), some (.int (Int32.ofNat v))], [], h2, fl_tot) r := e
  obtain ⟨x1, x2, x3⟩ := tri y2
  rw [x1, x2, x3] at e2
  have e2 : Ev d2 206 (144, [some (.ref 223), some (.int mo), some (.int (Int32.ofNat fo)), some (.int rs), some (.int mr), some (.int (Int32.ofInt (cntA hm 0))), some (.int (Int32.ofNat st))], [], hm2, fl_tot) r2 := e2
  have e := y_run_4 R2.1.1.1 e
  rw [o32 (by omega)] at e
  obtain ⟨d7, v7, h7, n7, z7, ec7, e⟩ := b_call (m2 := 35) (k := 1) (nL := 4) (as := [.ref 208, .int (Int32.ofNat (st + 1))]) (rest := []) (L := [some (.ref 208), some (.int (Int32.ofNat (st + 1))), none, none]) e (show fl_code 26 85 = some (18, [((35 : Nat) : Int), ((1 : Nat) : Int)], 88) by decide +kernel) rfl (by decide +kernel) rfl rfl rfl
  obtain ⟨x1, x2, x3⟩ := tri (x_find G R2 s4 (by omega) ec7)
  rw [x1, x2, x3] at e
  have e : Ev d 26 (88, [some (.ref 208), some (.ref 219), some (.int (abM (PA hm1) (qc g))), some (.int (Int32.ofNat (st + 1))), some (.int (Int32.ofNat v))], [.int (abM (PA hm2) (qc g))], h2, fl_tot) r := e
  have e2 := z_ex_6 R2.1.2.1.1 e2
  obtain ⟨d8, v8, h8, n8, z8, ec8, e2⟩ := b_call (m2 := 207) (k := 0) (nL := 3) (as := [.ref 223]) (rest := []) (L := [some (.ref 223), none, none]) e2 (show fl_code 206 145 = some (18, [((207 : Nat) : Int), ((0 : Nat) : Int)], 148) by decide +kernel) rfl (by decide +kernel) rfl rfl rfl
  obtain ⟨x1, x2, x3⟩ := tri (ev_det ec8 (show Ev 6 207 (0, [some (.ref 223), none, none], [], hm2, fl_tot) _ from by
    have := c_ableMany s2.1 (fun c q1 q2 => s4.ab s2.1 q1 q2) 6 (Nat.le_refl _)
    rw [rv31] at this
    exact this))
  rw [x1, x2, x3] at e2
  have e2 : Ev d2 206 (148, [some (.ref 223), some (.int mo), some (.int (Int32.ofNat fo)), some (.int rs), some (.int mr), some (.int (Int32.ofInt (cntA hm 0))), some (.int (Int32.ofNat st))], [.int (Int32.ofInt (cntA hm2 0))], hm2, fl_tot) r2 := e2
  have k90 : ∀ j : Nat, rd 90 (j : Int) hm2 = rd 90 (j : Int) hm1 := fun j => DF.k 90 _ rfl
  have k91 : ∀ j : Nat, rd 91 (j : Int) hm2 = rd 91 (j : Int) hm1 := fun j => DF.k 91 _ rfl
  have chs2 : ∀ i : Int, 0 ≤ i → i < st → rd 90 i hm2 = rd 90 i hm1 := fun i _ _ => DF.k 90 _ rfl
  have e90 : rd 90 (st : Int) hm2 = W.toInt := by rw [k90, rd282, m90, if_pos rfl]
  have f1 : ∀ j : Nat, h2.1 210 j = h1.1 210 j ∧ h2.1 211 j = h1.1 211 j ∧ h2.1 219 j = h1.1 219 j := fun j => ⟨congrFun (u3 210 (by decide +kernel)).1 j, congrFun (u3 211 (by decide +kernel)).1 j, congrFun (u3 219 (by decide +kernel)).1 j⟩
  have g1 : ∀ j : Nat, h1.1 219 j = h.1 219 j := fun j => by rw [eh1, setI_no (by omega), setI_no (by omega)]
  have g2 : ∀ j : Nat, j ≠ st → h1.1 210 j = h.1 210 j ∧ h1.1 211 j = h.1 211 j := fun j z => by rw [eh1, setI_no (by omega), setI_no (by omega), setI_no (by omega), setI_no (by omega)]; exact ⟨rfl, rfl⟩
  have g3 : h1.1 210 st = Int32.ofNat v ∧ h1.1 211 st = abM (PA hm1) (qc g) := by rw [eh1, setI_at, setI_no (by omega), setI_at]; exact ⟨rfl, rfl⟩
  have Re2 : Rea b (chF hm2) (st + 1) hm2 := by
    refine ⟨s2.1, s4, hm1, (v : Int), hm2, Re1.ch chs2, ?_, ?_, s3, Fq.refl hm2⟩
    · show isNth hm1 (rd 90 (st : Int) hm2) v
      rw [e90]
      exact v1
    · have q1 := ableV_now v1.2.2.1
      have q2 := (I1.2.1 (v : Int) v1.1 v1.2.1).1
      omega
  have AR2 : ARx b g h2 hm2 (st + 1) := fun j hj => by
    by_cases z : j = st
    · subst z
      refine ⟨hm1, v, Re1.ch chs2, r41, ?_, ?_, ?_, ?_, ?_⟩
      · rw [e90]; exact v1
      · rw [(f1 j).1]; exact g3.1
      · rw [(f1 j).2.1]; exact g3.2
      · rw [e90, ec]; exact hW.2
      · rw [k91, rd283, m91, kc (by omega) (by omega), ec]
    · obtain ⟨gj, c, a1, a2, a3, a4, a5, a6, a7⟩ := A j (by omega)
      have q90 : rd 90 (j : Int) hm2 = rd 90 (j : Int) hm := by rw [k90, rd282, rd282, m90, if_neg z]
      have q91 : rd 91 (j : Int) hm2 = rd 91 (j : Int) hm := by rw [k91, rd283, rd283, m91' j z]
      refine ⟨gj, c, Rea.ch (fun i q1 q2 => by rw [chs2 i q1 (by omega), chs i q1 (by omega)]) a1, a2, by rw [q90]; exact a3, by rw [(f1 j).1, (g2 j z).1]; exact a4, by rw [(f1 j).2.1, (g2 j z).2]; exact a5, by rw [q90]; exact a6, by rw [q91]; exact a7⟩
  have PL2 : PLx b g h2 hm2 (st + 1) fo := Pl.fr (by omega) (fun j => by rw [(f1 j).2.2, g1]) (fun j hj => by
    rw [k90, rd282, rd282, m90]
    by_cases z : j = st
    · rw [if_pos z, z, hf (by omega)]
    · rw [if_neg z])
  exact ⟨h2, hm2, _, ⟨⟨R2, u2, s4, Re2, AR2, PL2, Fb.trans ((F1.wide rfl rfl).trans (DF.wide rfl rfl))⟩, IV2, FA.trans ((F1.wide rfl rfl).trans (DF.wide rfl rfl))⟩, y_runp_5 R2.1.1.1 e, z_ex_7 R2.1.2.1.1 e2⟩
theorem ex_inQ {a0 b g : Hp} (G : GS g) {fo : Nat} {mo rs mr : Int32} (hfo : fo ≤ 600) : ∀ (f : Nat) {h hm : Hp} {st d d2 : Nat} {ol o6 : Option Value} {r r2 : Option Value × Hp × Nat}, st ≤ 600 → 600 - st < f → EXQ a0 b g h hm st fo → Ev d 26 (20, [some (.ref 208), some (.ref 219), some (.int (abM (PA hm) (qc g))), some (.int (Int32.ofNat st)), ol], [], h, fl_tot) r → Ev d2 206 (75, [some (.ref 223), some (.int mo), some (.int (Int32.ofNat fo)), some (.int rs), some (.int mr), some (.int (Int32.ofInt (cntA hm 0))), o6], [], hm, fl_tot) r2 → ∃ (h' hm' : Hp) (st' : Nat) (v n5 : Int32) (o6' : Option Value), st' ≤ 600 ∧ (0 ≤ v.toInt ∧ v.toInt ≤ 2) ∧ r = (none, fl_setI (fl_setI h' 208 5 (Int32.ofNat st')) 208 6 v, fl_tot) ∧ EXQ a0 b g h' hm' st' fo ∧ Ev d2 206 (163, [some (.ref 223), some (.int mo), some (.int (Int32.ofNat fo)), some (.int rs), some (.int mr), some (.int n5), o6'], [.int rs, .ref 223], fl_setI hm' 223 14 v, fl_tot) r2
  | 0, _, _, _, _, _, _, _, _, _, _, hf, _, _, _ => by omega
  | f + 1, h, hm, st, d, d2, ol, o6, r, r2, st9, hf, E, e, e2 => by
    have R := E.1.1
    have I := E.1.2.2.1
    have Pl := E.1.2.2.2.2.2.1
    have hTm := R.1.2.2.2.2
    have est : (Int32.ofNat st).toInt = st := i32n (by omega)
    have esn : (Int32.ofNat st).toNatClampNeg = st := o32c (by omega)
    have efo : (Int32.ofNat fo).toInt = fo := i32n (by omega)
    have cb := cntA_bd hm 0
    have ecn : (Int32.ofInt (cntA hm 0)).toInt = cntA hm 0 := kc (by omega) (by omega)
    have r4 := (r4_of G R.1.2.1).2
    have q5 : qc g ≤ 5 := G.1.2.2.1
    have fin : ∀ {oc' ol' o6' : Option Value} {n5 : Int32}, Ev d 26 (92, [some (.ref 208), oc', some (.int (abM (PA hm) (qc g))), some (.int (Int32.ofNat st)), ol'], [], h, fl_tot) r → Ev d2 206 (153, [some (.ref 223), some (.int mo), some (.int (Int32.ofNat fo)), some (.int rs), some (.int mr), some (.int n5), o6'], [], hm, fl_tot) r2 → ∃ (h' hm' : Hp) (st' : Nat) (v n5 : Int32) (o6' : Option Value), st' ≤ 600 ∧ (0 ≤ v.toInt ∧ v.toInt ≤ 2) ∧ r = (none, fl_setI (fl_setI h' 208 5 (Int32.ofNat st')) 208 6 v, fl_tot) ∧ EXQ a0 b g h' hm' st' fo ∧ Ev d2 206 (163, [some (.ref 223), some (.int mo), some (.int (Int32.ofNat fo)), some (.int rs), some (.int mr), some (.int n5), o6'], [.int rs, .ref 223], fl_setI hm' 223 14 v, fl_tot) r2 := fun {oc' ol' o6' n5} a z => by
      have z := z_ex_8 R.1.2.1.1 z
      obtain ⟨d3, v3, h3, n3, z3, ec3, z⟩ := b_call (m2 := 178) (k := 0) (nL := 2) (as := [.ref 223]) (rest := [.ref 223]) (L := [some (.ref 223), none]) z (show fl_code 206 155 = some (18, [((178 : Nat) : Int), ((0 : Nat) : Int)], 158) by decide +kernel) rfl (by decide +kernel) rfl rfl rfl
      obtain ⟨v, bv, w, x⟩ := end_both G R I st9 a ec3
      obtain ⟨x1, x2, x3⟩ := tri w
      rw [x1, x2, x3] at z
      have z : Ev d2 206 (158, [some (.ref 223), some (.int mo), some (.int (Int32.ofNat fo)), some (.int rs), some (.int mr), some (.int n5), o6'], [.int v, .ref 223], hm, fl_tot) r2 := z
      exact ⟨h, hm, st, v, n5, o6', st9, bv, x, E, z_ex_9 R.1.2.1.1 z⟩
    by_cases c0 : cntA hm 0 = 0
    · -- nobody is able
      have nob : ∀ j, j < qc g → PA hm j = false := fun j hj => by
        cases y : PA hm j
        · rfl
        · exfalso
          have s := cntA_step (h := hm) (c := (j : Int)) (by omega) (by omega)
          have m := cntA_mono (h := hm) (c := 0) (c' := (j : Int)) (by omega)
          have p := (cntA_bd hm ((j : Int) + 1)).1
          rw [PA_1 y] at s
          omega
      have a0 : (abM (PA hm) (qc g)).toInt = 0 := by rw [abM_0 _ nob]; decide
      have zz : Ev d2 206 (153, [some (.ref 223), some (.int mo), some (.int (Int32.ofNat fo)), some (.int rs), some (.int mr), some (.int (Int32.ofInt (cntA hm 0))), o6], [], hm, fl_tot) r2 := by
        rcases z_ex_5 R.1.2.1.1 e2 with ⟨-, z⟩ | ⟨q, -⟩ | ⟨q, -⟩ | ⟨q, -⟩
        · exact z
        all_goals omega
      rcases y_run_2 R.1.1.1 e with ⟨-, e⟩ | ⟨-, e⟩
      · exact fin e zz
      · rcases y_runp_c R.1.1.1 e with ⟨-, e⟩ | ⟨q, -⟩ | ⟨q, -⟩
        · exact fin e zz
        · exact absurd a0 q
        · exact absurd a0 q
    · -- somebody is
      have an : (abM (PA hm) (qc g)).toInt ≠ 0 := by
        have som : ∃ c, c < qc g ∧ PA hm c = true := by
          have K : ∀ k a : Nat, a + k = qc g → cntA hm (a : Int) ≠ 0 → ∃ c, c < qc g ∧ PA hm c = true := by
            intro k
            induction k with
            | zero =>
              intro a h1 h2
              exact absurd (cntA_end (by omega)) h2
            | succ k ih =>
              intro a h1 h2
              cases y : PA hm a
              · have s := cntA_step (h := hm) (c := (a : Int)) (by omega) (by omega)
                rw [PA_0 y] at s
                exact ih (a + 1) (by omega) (by rw [show ((a + 1 : Nat) : Int) = (a : Int) + 1 by omega]; omega)
              · exact ⟨a, by omega, y⟩
          exact K (qc g) 0 (by omega) c0
        obtain ⟨c, c1, c2⟩ := som
        obtain ⟨c0', b1, b2, b3⟩ := least_of c c1 c2
        exact (cho q5 b1 b2 b3).2.1
      by_cases s6 : st < 600
      · have e : Ev d 26 (45, [some (.ref 208), some (.ref 219), some (.int (abM (PA hm) (qc g))), some (.int (Int32.ofNat st)), ol], [.int (abM (PA hm) (qc g)), .int (h.1 219 st)], h, fl_tot) r := by
          rcases y_run_2 R.1.1.1 e with ⟨q, -⟩ | ⟨-, e⟩
          · omega
          · have len : (Int32.ofNat (fl_len h 219)).toInt = 600 := by
              rw [show fl_len h 219 = 600 from rfl]
              decide
            rcases y_runp_c R.1.1.1 e with ⟨q, -⟩ | ⟨-, q, -⟩ | ⟨-, -, e⟩
            · exact absurd q an
            · omega
            · rw [esn] at e
              exact e
        have e15 : hm.1 223 15 = Int32.ofNat st := R.1.2.2.1
        rcases z_ex_5 R.1.2.1.1 e2 with ⟨q, -⟩ | ⟨-, q, -⟩ | ⟨-, -, q, z⟩ | ⟨-, -, q, z⟩
        · omega
        · rw [e15] at q
          omega
        · rw [e15, est, efo] at q
          rw [e15, esn] at z
          obtain ⟨h', hm', ol', E', e', e2'⟩ := ex_sQ G E s6 (W := Int32.ofInt 0) (by rw [show (Int32.ofInt 0).toInt = 0 from rfl]; omega) (fun y => by omega) (fun _ => rfl) e z
          exact ex_inQ G hfo f (by omega) (by omega) E' e' e2'
        · rw [e15, est, efo] at q
          rw [e15, esn] at z
          have b90 : 0 ≤ (hm.1 282 st).toInt ∧ (hm.1 282 st).toInt ≤ 4 := TI.rng hTm 90 600 0 4 (by decide +kernel) (by decide) (by decide) (i := st) s6
          obtain ⟨gj, c, a1, a2, a3, a4, a5⟩ := Pl.1 st (Nat.le_refl _) (by omega)
          have ecg : cntA hm 0 = cntA gj 0 := Rea.cnt a1 E.1.2.2.2.1
          rw [rd282] at a5
          obtain ⟨h', hm', ol', E', e', e2'⟩ := ex_sQ G E s6 (W := hm.1 282 st) (by omega) (fun _ => rfl) (fun y => by omega) e z
          exact ex_inQ G hfo f (by omega) (by omega) E' e' e2'
      · have zz : Ev d2 206 (153, [some (.ref 223), some (.int mo), some (.int (Int32.ofNat fo)), some (.int rs), some (.int mr), some (.int (Int32.ofInt (cntA hm 0))), o6], [], hm, fl_tot) r2 := by
          rcases z_ex_5 R.1.2.1.1 e2 with ⟨-, z⟩ | ⟨-, -, z⟩ | ⟨-, q, -⟩ | ⟨-, q, -⟩
          · exact z
          · exact z
          · rw [R.1.2.2.1] at q
            omega
          · rw [R.1.2.2.1] at q
            omega
        rcases y_run_2 R.1.1.1 e with ⟨-, e⟩ | ⟨q, -⟩
        · exact fin e zz
        · omega
theorem ex_runQ {b g h hm : Hp} {d d2 fo : Nat} {mo rs mr : Int32} {o5 o6 : Option Value} {r r2 : Option Value × Hp × Nat} (G : GS g) (X : SX g h) (M : SM g hm) (hT : TInv h) (hTm : TInv hm) (V : SV hm) (stat : ∀ t : Nat, t < qt g → (g.1 224 t).toInt = 5 → ∀ j : Nat, j < 32 → h.1 (9 + 24 * t) j = hm.1 234 (32 * t + j)) (hfo : fo ≤ 600) (P : PLx b g h hm 0 fo) (Fb : Fq exKs exFs b hm) (e : Ev d 26 (0, [some (.ref 208), some (.ref 219), none, none, none], [], h, fl_tot) r) (e2 : Ev d2 206 (66, [some (.ref 223), some (.int mo), some (.int (Int32.ofNat fo)), some (.int rs), some (.int mr), o5, o6], [.ref 223], hm, fl_tot) r2) : ∃ (h' hm' : Hp) (st' : Nat) (v n5 : Int32) (o6' : Option Value), st' ≤ 600 ∧ (0 ≤ v.toInt ∧ v.toInt ≤ 2) ∧ r = (none, fl_setI (fl_setI h' 208 5 (Int32.ofNat st')) 208 6 v, fl_tot) ∧ EXQ hm b g h' hm' st' fo ∧ Ev d2 206 (163, [some (.ref 223), some (.int mo), some (.int (Int32.ofNat fo)), some (.int rs), some (.int mr), some (.int n5), o6'], [.int rs, .ref 223], fl_setI hm' 223 14 v, fl_tot) r2 := by
  have t6 := G.1.1
  have e := y_run_0 X.1 e
  obtain ⟨d3, v3, h3, n3, z3, ec3, e⟩ := b_call (m2 := 27) (k := 0) (nL := 4) (as := [.ref 1]) (rest := []) (L := [some (.ref 1), none, none, none]) e (show fl_code 26 4 = some (18, [((27 : Nat) : Int), ((0 : Nat) : Int)], 7) by decide +kernel) rfl (by decide +kernel) rfl rfl rfl
  obtain ⟨h1, a1, a2, a3, a4, a5, a6⟩ := x_begins G X hT ec3
  obtain ⟨w1, w2, w3⟩ := tri a1
  rw [w1, w2, w3] at e
  have e : Ev d 26 (7, [some (.ref 208), some (.ref 219), none, none, none], [], h1, fl_tot) r := e
  have e := y_run_1 a3.1 e
  obtain ⟨h2, eh⟩ : ∃ z, z = fl_setI h1 208 4 (Int32.ofInt 0) := ⟨_, rfl⟩
  rw [← eh] at e
  have T2 : TInv h2 := by rw [eh]; exact a2.w (r := 208) (k := 4) (lo := 0) (hi := 80) (by decide +kernel) (by decide)
  have lo : ∀ r j : Nat, ¬ (r = 208 ∧ j = 4) → h2.1 r j = h1.1 r j := fun r j z => by rw [eh]; exact setI_no z
  have h22 : h2.2 = h1.2 := by rw [eh]; rfl
  have X2 : SX g h2 := SX.low G h22 (fun r j z => lo r j (by omega)) a3
  -- the reference
  obtain ⟨d4, v4, h4, n4, z4, ec4, e2⟩ := b_call (m2 := 154) (k := 0) (nL := 2) (as := [.ref 223]) (rest := []) (L := [some (.ref 223), none]) e2 (show fl_code 206 66 = some (18, [((154 : Nat) : Int), ((0 : Nat) : Int)], 69) by decide +kernel) rfl (by decide +kernel) rfl rfl rfl
  obtain ⟨hm1, b1, B⟩ := z_begins M.1 ec4
  obtain ⟨hq, c1, c2, c3⟩ := c_begins hTm
  have k := ev_det ec4 (show Ev 3 154 (0, [some (.ref 223), none], [], hm, fl_tot) _ from by
    have := c1 3 (Nat.le_refl _)
    rw [rv31] at this
    exact this)
  rw [b1] at k
  obtain ⟨-, k2, -⟩ := tri k
  subst k2
  have I1 : RI hm1 := RI.begins hTm V c3
  obtain ⟨w1, w2, w3⟩ := tri b1
  rw [w1, w2, w3] at e2
  have e2 : Ev d2 206 (69, [some (.ref 223), some (.int mo), some (.int (Int32.ofNat fo)), some (.int rs), some (.int mr), o5, o6], [], hm1, fl_tot) r2 := e2
  have R : RR g h2 hm1 0 := RR.zero G X2 (fun t ht => (a4 t ht).eq (by omega) fun r j hr => lo r j (by omega)) (fun c hc => ⟨by rw [lo _ _ (by have := G.c5 hc; omega)]; exact (a5 c hc).1, fun i hi => ((a5 c hc).2 i hi).eq (G.c5 hc) (G.i8 hc hi) (fun r j hr => lo r j (by omega)) h22⟩) (by rw [eh, setI_at]) M B c2.1 X stat
  have Re : Rea b (chF hm1) 0 hm1 := ⟨c2.1, I1, hm, hm1, SEq.of Fb rfl, c3, c2.1, Fq.refl hm1⟩
  have PL : PLx b g h2 hm1 0 fo := P.fr (Nat.le_refl _) (fun j => by rw [lo _ _ (by omega), a6 _ _ (by omega)]) (fun j _ => c3.1.k 90 _ rfl)
  have E : EXQ hm b g h2 hm1 0 fo := ⟨⟨R, T2, I1, Re, fun j hj => by omega, PL, Fb.trans (c3.1.wide rfl rfl)⟩, fun c j hc hj _ => by
    have q := B.2.2.2.2.1 (8 * c + j) (by omega)
    exact ⟨q.1, q.2.1⟩, c3.1.wide rfl rfl⟩
  -- who is able first
  obtain ⟨d5, v5, h5, nn5, z5, ec5, e⟩ := b_call (m2 := 35) (k := 1) (nL := 4) (as := [.ref 208, .int (Int32.ofInt 0)]) (rest := []) (L := [some (.ref 208), some (.int (Int32.ofInt 0)), none, none]) e (show fl_code 26 14 = some (18, [((35 : Nat) : Int), ((1 : Nat) : Int)], 17) by decide +kernel) rfl (by decide +kernel) rfl rfl rfl
  obtain ⟨w1, w2, w3⟩ := tri (x_find (st := 0) G R I1 (by omega) ec5)
  rw [w1, w2, w3] at e
  have e : Ev d 26 (17, [some (.ref 208), some (.ref 219), none, none, none], [.int (abM (PA hm1) (qc g))], h2, fl_tot) r := e
  have e : Ev d 26 (20, [some (.ref 208), some (.ref 219), some (.int (abM (PA hm1) (qc g))), some (.int (Int32.ofInt 0)), none], [], h2, fl_tot) r := e.bk [((3, [2, 0], 18), 0), ((1, [0], 19), 0), ((3, [3, 0], 20), 0)] [] (by decide +kernel) trivial rfl
  have e2 := z_ex_3 R.1.2.1.1 e2
  obtain ⟨d6, v6, h6, n6, z6, ec6, e2⟩ := b_call (m2 := 207) (k := 0) (nL := 3) (as := [.ref 223]) (rest := []) (L := [some (.ref 223), none, none]) e2 (show fl_code 206 70 = some (18, [((207 : Nat) : Int), ((0 : Nat) : Int)], 73) by decide +kernel) rfl (by decide +kernel) rfl rfl rfl
  obtain ⟨x1, x2, x3⟩ := tri (ev_det ec6 (show Ev 6 207 (0, [some (.ref 223), none, none], [], hm1, fl_tot) _ from by
    have := c_ableMany c2.1 (fun c q1 q2 => I1.ab c2.1 q1 q2) 6 (Nat.le_refl _)
    rw [rv31] at this
    exact this))
  rw [x1, x2, x3] at e2
  have e2 : Ev d2 206 (73, [some (.ref 223), some (.int mo), some (.int (Int32.ofNat fo)), some (.int rs), some (.int mr), o5, o6], [.int (Int32.ofInt (cntA hm1 0))], hm1, fl_tot) r2 := e2
  exact ex_inQ G hfo 601 (st := 0) (by omega) (by omega) E e (z_ex_4 R.1.2.1.1 e2)
