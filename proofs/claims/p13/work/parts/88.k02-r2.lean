
set_option maxRecDepth 20000
/-! STEPS ON BOTH SIDES: TAKE, GIVE, MARK, MAKE -/
theorem setI_at {h : Hp} {r k : Nat} {x : Int32} : (fl_setI h r k x).1 r k = x := if_pos ⟨rfl, rfl⟩
theorem qH_succ (g : Hp) (c i p : Nat) (m : Int) : qH g c i (p + 1) m = if qS g c i p = 100 + m then true else if qS g c i p = 200 + m then false else qH g c i p m := rfl
theorem NT.fr2 {g h h' hm hm' : Hp} {c i p : Nat} (a13 : h'.1 (152 + 12 * c + i) 13 = h.1 (152 + 12 * c + i) 13) (a14 : h'.1 (152 + 12 * c + i) 14 = h.1 (152 + 12 * c + i) 14) (c1 : h'.1 (150 + 12 * c) 1 = h.1 (150 + 12 * c) 1) (c2 : ∀ j : Nat, h'.1 (151 + 12 * c) j = h.1 (151 + 12 * c) j) (b : ∀ K : Nat, 247 ≤ K → K ≤ 250 → hm'.1 K c = hm.1 K c) (b2 : ∀ K j : Nat, K = 252 ∨ K = 253 → hm'.1 K j = hm.1 K j) (O : NT g h hm c i p) : NT g h' hm' c i p := by
  unfold NT
  rw [a13, a14, b 247 (by decide) (by decide), b 248 (by decide) (by decide), b 249 (by decide) (by decide), b 250 (by decide) (by decide), c1]
  obtain ⟨n0, n1, n2, n3, n4, n5⟩ := O
  refine ⟨n0, n1, n2, n3, fun z1 z2 => ⟨(n4 z1 z2).1, (n4 z1 z2).2.1, fun z3 j hj => ?_⟩, n5⟩
  rw [c2, b2 252 _ (Or.inl rfl), b2 253 _ (Or.inr rfl)]
  exact (n4 z1 z2).2.2 z3 j hj
/-- a step that notes nothing -/
theorem NT.next {g h hm : Hp} {c i p : Nat} (G : GS g) (hc : c < qc g) (hi : i < qm g c) (hp : p < stLen (qJ g c i)) (h2 : stC (qJ g c i) p ≠ 2) (h4 : stC (qJ g c i) p ≠ 4) (h6 : stC (qJ g c i) p ≠ 6) (h3 : stC (qJ g c i) p ≠ 3) (O : NT g h hm c i p) : NT g h hm c i (p + 1) := by
  have f5 : ∀ p : Nat, p + 1 ≠ 5 → 5 ≤ p + 1 → 5 ≤ p := fun p => by omega
  have t := G.tb hc hi hp
  have t1 := t.2.1 h2 h4
  have t6 := t.2.2.2.2.2.2.1 h6
  have t7 := t.2.2.2.2.2.2.2.1 h3
  have le : ∀ {a b : Nat}, a ≤ b + 1 → a ≠ b + 1 → a ≤ b := fun h1 h2 => Nat.le_of_lt_succ (Nat.lt_of_le_of_ne h1 h2)
  obtain ⟨n0, n1, n2, n3, n4, n5⟩ := O
  refine ⟨fun z y => n0 z (le y t1), fun z y => n1 z (le y t1), fun z y => n2 z (le y t1), fun z y => n3 z (le y t1), fun z y => n4 z (le y t1), fun z y => ?_⟩
  have t6 := t6 z
  have t7 := t7 z
  obtain ⟨m1, m2⟩ := n5 z (le y t1)
  refine ⟨?_, fun y1 y2 => m2 (le y1 (fun w => t7 w.symm)) y2⟩
  rw [m1]
  by_cases q : 5 ≤ p ∧ (hm.1 250 c).toInt ≠ 0
  · rw [if_pos q, if_pos ⟨Nat.le_succ_of_le q.1, q.2⟩]
  · rw [if_neg q, if_neg (fun w => q ⟨f5 p t6 w.1, w.2⟩)]
theorem x_take {g h : Hp} (G : GS g) (X : SX g h) {c i p d : Nat} {s : Int32} {r : Option Value × Hp × Nat} (hc : c < qc g) (hi : i < qm g c) (hp : p < stLen (qJ g c i)) (a8 : h.1 (152 + 12 * c + i) 8 = Int32.ofInt (monI (qK g c i) (qO g c i) (qA g c i) c)) (a9 : h.1 (152 + 12 * c + i) 9 = Int32.ofNat p) (a7 : h.2 (152 + 12 * c + i) 7 = some (1000 + qJ g c i)) (hC : stC (qJ g c i) p = 0) (e : Ev d 45 (0, [some (.ref 208), some (.ref (148 + 12 * c)), some (.ref (152 + 12 * c + i)), some (.int s), none], [], h, fl_tot) r) : ∃ h', r = (none, fl_setI h' (152 + 12 * c + i) 9 (Int32.ofNat (p + 1)), fl_tot) ∧ ((qF g c i = 1 ∧ h' = h) ∨ (qF g c i ≠ 1 ∧ h' = fl_setI h (8 + 24 * qT g c i) (qM g c i p).toNat (Int32.ofNat c))) := by
  have hJ := G.len hc hi
  obtain ⟨p10, hp0, hpl, hcd⟩ := cx G X hc hi (by omega) hp a9 a7
  have hM := (G.inn hc hi hp).2.2.2 (by omega)
  obtain ⟨m1, m2, m3⟩ := cmon a8 a9 p10 hM
  obtain ⟨eF, eK⟩ := cF G X hc hi
  have e1 : h.1 (152 + 12 * c + i) 9 + Int32.ofInt 1 = Int32.ofNat (p + 1) := by rw [a9, o32 (by omega)]
  rcases y_go_take (X.sq (G.c5 hc)) (G.T6 hc hi) (G.c5 hc) (G.i8 hc hi) (X.ak G hc hi) hp0 hpl (by rw [hcd]; exact hC) e with ⟨-, -, -, q4, q5, q6, w⟩ | ⟨-, -, -, q4, q5, q6, w⟩ | ⟨-, -, -, q4, q5, q6, w⟩ | ⟨-, -, -, q4, q5, q6, w⟩ | ⟨-, -, -, q4, q6, w⟩ | ⟨-, -, -, q4, q6, w⟩
  · exact ⟨_, by rw [w, e1], Or.inl ⟨by omega, rfl⟩⟩
  · exact ⟨_, by rw [w, m1 q4 q5, e1], Or.inr ⟨by omega, rfl⟩⟩
  · exact ⟨_, by rw [w, e1], Or.inl ⟨by omega, rfl⟩⟩
  · exact ⟨_, by rw [w, m2 q4 q5, e1], Or.inr ⟨by omega, rfl⟩⟩
  · exact ⟨_, by rw [w, e1], Or.inl ⟨by omega, rfl⟩⟩
  · exact ⟨_, by rw [w, m3 q4, e1], Or.inr ⟨by omega, rfl⟩⟩
/-- a row of steps of its own (an act that found its value) may stand in the act -/
theorem x_give {g h : Hp} (G : GS g) (X : SX g h) {c i p d J M : Nat} {s : Int32} {r : Option Value × Hp × Nat} (hc : c < qc g) (hi : i < qm g c) (hJ : J < 10) (hp : p < stLen J) (a9 : h.1 (152 + 12 * c + i) 9 = Int32.ofNat p) (a7 : h.2 (152 + 12 * c + i) 7 = some (1000 + J)) (hC : stC J p = 1)
    (mm : ((h.1 (152 + 12 * c + i) 8).toInt = -1 → (h.1 (152 + 12 * c + i) 9).toInt ≥ 4 → ((((h.1 (152 + 12 * c + i) 9 - Int32.ofInt 4) - Int32.ofInt 1) &&& Int32.ofInt 3) &&& Int32.ofInt 3).toNatClampNeg = M) ∧ ((h.1 (152 + 12 * c + i) 8).toInt = -1 → (h.1 (152 + 12 * c + i) 9).toInt < 4 → ((h.1 (152 + 12 * c + i) 9 &&& Int32.ofInt 3) &&& Int32.ofInt 3).toNatClampNeg = M) ∧ ((h.1 (152 + 12 * c + i) 8).toInt ≠ -1 → (h.1 (152 + 12 * c + i) 8 &&& Int32.ofInt 3).toNatClampNeg = M))
    (e : Ev d 45 (0, [some (.ref 208), some (.ref (148 + 12 * c)), some (.ref (152 + 12 * c + i)), some (.int s), none], [], h, fl_tot) r) : ∃ h', r = (none, fl_setI h' (152 + 12 * c + i) 9 (Int32.ofNat (p + 1)), fl_tot) ∧ (((h.1 (8 + 24 * qT g c i) M).toInt ≠ c ∧ h' = h) ∨ ((h.1 (8 + 24 * qT g c i) M).toInt = c ∧ h' = fl_setI h (8 + 24 * qT g c i) M (Int32.ofInt (-1)))) := by
  obtain ⟨p10, hp0, hpl, hcd⟩ := cx G X hc hi hJ hp a9 a7
  have c5 := G.c5 hc
  have ec : (Int32.ofNat c).toInt = c := i32n (by omega)
  obtain ⟨m1, m2, m3⟩ := mm
  have e1 : h.1 (152 + 12 * c + i) 9 + Int32.ofInt 1 = Int32.ofNat (p + 1) := by rw [a9, o32 (by omega)]
  rcases y_go_give (X.sq (G.c5 hc)) (G.T6 hc hi) (G.c5 hc) (G.i8 hc hi) (X.ak G hc hi) hp0 hpl (by rw [hcd]; exact hC) e with ⟨-, -, -, -, q4, q5, q6, w⟩ | ⟨-, -, -, -, q4, q5, q6, w⟩ | ⟨-, -, -, -, q4, q5, q6, w⟩ | ⟨-, -, -, -, q4, q5, q6, w⟩ | ⟨-, -, -, -, q4, q6, w⟩ | ⟨-, -, -, -, q4, q6, w⟩
  · rw [m1 q4 q5, ec] at q6
    exact ⟨_, by rw [w, e1], Or.inl ⟨q6, rfl⟩⟩
  · rw [m1 q4 q5, ec] at q6
    exact ⟨_, by rw [w, m1 q4 q5, e1], Or.inr ⟨q6, rfl⟩⟩
  · rw [m2 q4 q5, ec] at q6
    exact ⟨_, by rw [w, e1], Or.inl ⟨q6, rfl⟩⟩
  · rw [m2 q4 q5, ec] at q6
    exact ⟨_, by rw [w, m2 q4 q5, e1], Or.inr ⟨q6, rfl⟩⟩
  · rw [m3 q4, ec] at q6
    exact ⟨_, by rw [w, e1], Or.inl ⟨q6, rfl⟩⟩
  · rw [m3 q4, ec] at q6
    exact ⟨_, by rw [w, m3 q4, e1], Or.inr ⟨q6, rfl⟩⟩
theorem WTS.of {h h' hm hm' : Hp} {c i : Nat} (a : h'.1 (152 + 12 * c + i) 12 = h.1 (152 + 12 * c + i) 12) (b : hm'.1 240 (8 * c + i) = hm.1 240 (8 * c + i)) (O : WTS h hm c i) : WTS h' hm' c i := by
  unfold WTS
  rw [a, b]
  exact O
theorem i32_1 : (Int32.ofInt 1).toInt = 1 := by decide
theorem i32_0 : (Int32.ofInt 0).toInt = 0 := by decide
theorem ofn_inj {a b : Nat} (ha : a < 1000) (hb : b < 1000) (h : Int32.ofNat a = Int32.ofNat b) : a = b := by
  have := congrArg Int32.toInt h
  rw [i32n (by omega), i32n (by omega)] at this
  omega
theorem ofn_neg {a : Nat} (ha : a < 1000) (h : Int32.ofInt (-1) = Int32.ofNat a) : False := by
  have := congrArg Int32.toInt h
  rw [i32n (by omega), show (Int32.ofInt (-1)).toInt = -1 by decide] at this
  omega
/-- a monitor of tray t written on both sides; the act goes on to p + 1 -/
theorem RRM.mon {g h hm : Hp} {st c i pc q p p' m : Nat} (G : GS g) (R : RRM g h hm st c i st (CUn g h hm c i pc q p)) (m4 : m < 4) (v : Int32) (h' : Hp) (eh : h' = h ∨ h' = fl_setI h (8 + 24 * qT g c i) m v) (ev : (fl_setI h (8 + 24 * qT g c i) m v).1 (8 + 24 * qT g c i) m = h'.1 (8 + 24 * qT g c i) m) (bv : -1 ≤ v.toInt ∧ v.toInt ≤ 4) (own : ∀ o : Nat, o < qc g → o ≠ c → hm.1 254 (4 * qT g c i + m) = Int32.ofNat o → v = Int32.ofNat o) (bare : qF g c i = 1 → v = Int32.ofInt (-1)) (pc' : Nat) (nt : NT g h hm c i p → NT g h hm c i p') (hl : HLD g hm c i p → HLD g (fl_setI hm 254 (4 * qT g c i + m) v) c i p') : RRM g (fl_setI h' (152 + 12 * c + i) 9 (Int32.ofNat pc')) (fl_setI hm 254 (4 * qT g c i + m) v) st c i (st + 1) (CUn g (fl_setI h' (152 + 12 * c + i) 9 (Int32.ofNat pc')) (fl_setI hm 254 (4 * qT g c i + m) v) c i pc' q p') := by
  obtain ⟨⟨X, M, S15, K, hT⟩, RT, RO, hc, hi, CK, b1, b2, ⟨u1, u2⟩, u3, u4, u5, u6, u7, u8⟩ := id R
  have c5 := G.c5 hc
  have i8 := G.i8 hc hi
  have T6 := G.T6 hc hi
  have low : ∀ r j, ¬ (r = 8 + 24 * qT g c i ∧ j = m) → h'.1 r j = h.1 r j := fun r j hn => by
    rcases eh with rfl | rfl
    · rfl
    · exact setI_no hn
  have low2 : h'.2 = h.2 := by rcases eh with rfl | rfl <;> rfl
  have FX' : KFX c i (qT g c i) h h' := by
    rcases eh with rfl | rfl
    · exact KFX.refl _ _ _ _
    · exact (KFX.refl _ _ _ _).set _ _ _ (by omega)
  obtain ⟨tc, ow1, ow2⟩ := RT _ (G.T hc hi)
  refine RRM.go G (by omega) R (FX'.set _ _ _ (by omega)) ((KFM.refl _ _ _ _).set _ _ _ (by omega)) (hT.a 254 _ (-1) 4 (by decide +kernel) (by decide +kernel) bv) ⟨_, (congrFun (congrFun low2 _) _).trans u5⟩ (fun o j ho hne hj => ?_) ((CK.2.1 i hi).2.of ?_ ?_) (tc.fr (TI.rng hT 69 6 0 40 (by decide +kernel) (by decide) (by decide) T6).2 (by omega) ⟨fun j => ⟨?_, ?_, ?_, ?_⟩, fun K j hK h1 h2 => ?_, fun j h1 h2 => ?_, fun K hK => ?_, fun j h1 h2 => ?_⟩) ⟨fun m' hm' => ?_, fun hF m' hm' => ?_⟩ ⟨⟨?_, ?_⟩, ?_, ?_, (congrFun (congrFun low2 _) _).trans u5, ?_, ?_, hl u8⟩
  · by_cases z : j = 4 * qT g c i + m
    · rw [z] at hj ⊢
      rw [setI_at]
      exact own o ho hne hj
    · rw [setI_no (by omega)]
      exact hj
  · rw [setI_no (by omega), low _ _ (by omega)]
  · rw [setI_no (by omega)]
  · rw [setI_no (by omega), low _ _ (by omega)]
  · rw [setI_no (by omega), low _ _ (by omega)]
  · rw [setI_no (by omega), low _ _ (by omega)]
  · rw [setI_no (by omega), low _ _ (by omega)]
  · rw [setI_no (by omega)]
  · rw [setI_no (by omega)]
  · rw [setI_no (by omega)]
  · rw [setI_no (by omega)]
  · rw [setI_no (by omega)]
    by_cases z : m' = m
    · subst z
      rw [← ev, setI_at, setI_at]
    · rw [low _ _ (by omega), setI_no (by omega)]
      exact ow1 m' hm'
  · by_cases z : m' = m
    · subst z
      rw [setI_at]
      exact bare hF
    · rw [setI_no (by omega)]
      exact ow2 hF m' hm'
  · rw [setI_no (by omega), low _ _ (by omega)]; exact u1
  · rw [setI_no (by omega)]; exact u2
  · rw [setI_at]
  · rw [setI_no (by omega)]; exact u4
  · rw [setI_no (by omega)]; exact u6
  · refine (nt u7).fr2 ?_ ?_ ?_ (fun j => ?_) (fun K h1 h2 => ?_) (fun K j hK => ?_)
    · rw [setI_no (by omega), low _ _ (by omega)]
    · rw [setI_no (by omega), low _ _ (by omega)]
    · rw [setI_no (by omega), low _ _ (by omega)]
    · rw [setI_no (by omega), low _ _ (by omega)]
    · rw [setI_no (by omega)]
    · rw [setI_no (by omega)]
theorem setI_id (h : Hp) (r k : Nat) : fl_setI h r k (h.1 r k) = h := by
  refine Prod.ext (funext fun a => funext fun b => ?_) rfl
  show (if a = r ∧ b = k then h.1 r k else h.1 a b) = h.1 a b
  by_cases z : a = r ∧ b = k
  · rw [if_pos z, z.1, z.2]
  · rw [if_neg z]
/-- what a go-step comes to -/
def GO (g : Hp) (st c i q : Nat) (L : List (Option Value)) (Z : Hp → Hp → Prop) (d2 : Nat) (r r2 : Option Value × Hp × Nat) : Prop := ∃ h' hm', r = (none, h', fl_tot) ∧ Ev d2 158 (256, L, [], hm', fl_tot) r2 ∧ RRM g h' hm' st c i (st + 1) (Z h' hm')
theorem go_take {g h hm : Hp} {st c i p d d2 : Nat} {s : Int32} {r r2 : Option Value × Hp × Nat} (G : GS g) (R : RRM g h hm st c i st (CUn g h hm c i p p p)) (hp : p < stLen (qJ g c i)) (hC : stC (qJ g c i) p = 0) (fr : qF g c i = 1 ∨ hm.1 254 (4 * qT g c i + (qM g c i p).toNat) = Int32.ofInt (-1) ∨ hm.1 254 (4 * qT g c i + (qM g c i p).toNat) = Int32.ofNat c) (e : Ev d 45 (0, [some (.ref 208), some (.ref (148 + 12 * c)), some (.ref (152 + 12 * c + i)), some (.int s), none], [], h, fl_tot) r) (e2 : Ev d2 158 (113, lsM g c i p, [], hm, fl_tot) r2) : GO g st c i p (lsM g c i p) (fun h' hm' => CUn g h' hm' c i (p + 1) p (p + 1)) d2 r r2 := by
  obtain ⟨⟨X, M, S15, K, hT⟩, RT, RO, hc, hi, CK, b1, b2, ⟨u1, u2⟩, u3, u4, u5, u6, u7, u8⟩ := id R
  have c5 := G.c5 hc
  have T6 := G.T6 hc hi
  obtain ⟨h', w, z⟩ := x_take G X hc hi hp (CK.2.2.1 i (Nat.le_refl _) hi).1 u3 u5 hC e
  have I := G.inn hc hi hp
  have hM := I.2.2.2 (by omega)
  obtain ⟨m, em⟩ : ∃ m : Nat, qM g c i p = m := ⟨(qM g c i p).toNat, by omega⟩
  have eS : qS g c i p = 100 + (m : Int) := by rw [I.1, hC, em]; rfl
  rw [em] at hM z fr
  rw [Int.toNat_natCast] at z fr
  have ix : (mOf (qT g c i) (qS g c i p)).toNatClampNeg = 4 * qT g c i + m := by rw [eS]; exact (mOf_ix T6 (by omega)).1
  have kS : (Int32.ofInt (qS g c i p)).toInt = 100 + (m : Int) := by rw [eS, kc (by omega) (by omega)]
  have nt := NT.next (h := h) (hm := hm) G hc hi hp (by omega) (by omega) (by omega) (by omega)
  obtain ⟨tc, ow1, ow2⟩ := RT _ (G.T hc hi)
  have Z := z_does_take (h := hm) (c := Int32.ofNat c) (x := Int32.ofNat (8 * c + i)) (st := Int32.ofInt (qS g c i p)) (m := mOf (qT g c i) (qS g c i p)) (bare := if qF g c i = 1 then Int32.ofInt 1 else Int32.ofInt 0) M.1 (by rw [kS]; omega) e2
  rw [ix] at Z
  by_cases hF : qF g c i = 1
  · have eh : h' = h := by
      rcases z with z | z
      · exact z.2
      · exact absurd hF z.1
    subst eh
    rw [if_pos hF, i32_1] at Z
    rcases Z with ⟨-, -, q, -⟩ | ⟨-, -, -, Z⟩
    · omega
    · refine ⟨_, fl_setI hm 254 (4 * qT g c i + m) (hm.1 254 (4 * qT g c i + m)), w, by unfold lsM; rw [if_pos hF]; exact Z, RRM.mon G R (m := m) (by omega) (hm.1 254 (4 * qT g c i + m)) h' (Or.inl rfl) (by rw [setI_at]; exact (ow1 m (by omega)).symm) ?_ (fun o ho hne hj => hj) (fun _ => ow2 hF m (by omega)) _ nt fun H => ?_⟩
      · rw [ow2 hF m (by omega)]; decide
      · rw [setI_id]
        exact fun y => absurd hF y
  · have eh : h' = fl_setI h (8 + 24 * qT g c i) m (Int32.ofNat c) := by
      rcases z with z | z
      · exact absurd z.1 hF
      · exact z.2
    subst eh
    rw [if_neg hF, i32_0] at Z
    rcases Z with ⟨-, -, -, Z⟩ | ⟨-, -, q, -⟩
    · refine ⟨_, fl_setI hm 254 (4 * qT g c i + m) (Int32.ofNat c), w, by unfold lsM; rw [if_neg hF]; exact Z, RRM.mon G R (m := m) (by omega) (Int32.ofNat c) _ (Or.inr rfl) rfl (by rw [i32n (by omega)]; omega) (fun o ho hne hj => ?_) (fun y => absurd y hF) _ nt fun H _ m' hm' hq => ?_⟩
      · have o5 := G.c5 ho
        rcases fr with fr | fr | fr
        · exact absurd fr hF
        · rw [fr] at hj
          exact (ofn_neg (by omega) hj).elim
        · rw [fr] at hj
          exact hj
      · by_cases y : m' = m
        · rw [y, setI_at]
        · rw [setI_no (by omega)]
          rw [qH_succ, if_neg (by omega), if_neg (by omega)] at hq
          exact H hF m' hm' hq
    · exact absurd rfl q
theorem go_give {g h hm : Hp} {st c i p d d2 : Nat} {s : Int32} {r r2 : Option Value × Hp × Nat} (G : GS g) (R : RRM g h hm st c i st (CUn g h hm c i p p p)) (hp : p < stLen (qJ g c i)) (hC : stC (qJ g c i) p = 1) (e : Ev d 45 (0, [some (.ref 208), some (.ref (148 + 12 * c)), some (.ref (152 + 12 * c + i)), some (.int s), none], [], h, fl_tot) r) (e2 : Ev d2 158 (113, lsM g c i p, [], hm, fl_tot) r2) : GO g st c i p (lsM g c i p) (fun h' hm' => CUn g h' hm' c i (p + 1) p (p + 1)) d2 r r2 := by
  obtain ⟨⟨X, M, S15, K, hT⟩, RT, RO, hc, hi, CK, b1, b2, ⟨u1, u2⟩, u3, u4, u5, u6, u7, u8⟩ := id R
  have c5 := G.c5 hc
  have T6 := G.T6 hc hi
  have hJ := G.len hc hi
  have I := G.inn hc hi hp
  have hM := I.2.2.2 (by omega)
  obtain ⟨m, em⟩ : ∃ m : Nat, qM g c i p = m := ⟨(qM g c i p).toNat, by omega⟩
  have mm := cmon (CK.2.2.1 i (Nat.le_refl _) hi).1 u3 (by omega) hM
  rw [em] at hM mm
  rw [Int.toNat_natCast] at mm
  obtain ⟨h', w, z⟩ := x_give G X hc hi (by omega) hp u3 u5 hC mm e
  have eS : qS g c i p = 200 + (m : Int) := by rw [I.1, hC, em]; rfl
  have ix : (mOf (qT g c i) (qS g c i p)).toNatClampNeg = 4 * qT g c i + m := by rw [eS]; exact (mOf_ix T6 (by omega)).2
  have kS : (Int32.ofInt (qS g c i p)).toInt = 200 + (m : Int) := by rw [eS, kc (by omega) (by omega)]
  have nt := NT.next (h := h) (hm := hm) G hc hi hp (by omega) (by omega) (by omega) (by omega)
  obtain ⟨tc, ow1, ow2⟩ := RT _ (G.T hc hi)
  have hh := I.2.2.1 hC
  rw [em] at hh
  have Z := z_does_give (h := hm) (c := Int32.ofNat c) (x := Int32.ofNat (8 * c + i)) (st := Int32.ofInt (qS g c i p)) (m := mOf (qT g c i) (qS g c i p)) (bare := if qF g c i = 1 then Int32.ofInt 1 else Int32.ofInt 0) M.1 (by rw [kS]; omega) e2
  rw [ix] at Z
  by_cases hF : qF g c i = 1
  · have eh : h' = h := by
      rcases z with z | z
      · exact z.2
      · have := z.1
        rw [ow1 m (by omega), ow2 hF m (by omega), show (Int32.ofInt (-1)).toInt = -1 by decide] at this
        omega
    subst eh
    rw [if_pos hF, i32_1] at Z
    rcases Z with ⟨-, q, -⟩ | ⟨-, -, Z⟩
    · omega
    · refine ⟨_, fl_setI hm 254 (4 * qT g c i + m) (hm.1 254 (4 * qT g c i + m)), w, by unfold lsM; rw [if_pos hF]; exact Z, RRM.mon G R (m := m) (by omega) (hm.1 254 (4 * qT g c i + m)) h' (Or.inl rfl) (by rw [setI_at]; exact (ow1 m (by omega)).symm) ?_ (fun o ho hne hj => hj) (fun _ => ow2 hF m (by omega)) _ nt fun H => ?_⟩
      · rw [ow2 hF m (by omega)]; decide
      · rw [setI_id]
        exact fun y => absurd hF y
  · have own := u8 hF m (by omega) hh
    have eh : h' = fl_setI h (8 + 24 * qT g c i) m (Int32.ofInt (-1)) := by
      rcases z with z | z
      · have := z.1
        rw [ow1 m (by omega), own, i32n (by omega)] at this
        exact absurd rfl this
      · exact z.2
    subst eh
    rw [if_neg hF, i32_0] at Z
    rcases Z with ⟨-, -, Z⟩ | ⟨-, q, -⟩
    · refine ⟨_, fl_setI hm 254 (4 * qT g c i + m) (Int32.ofInt (-1)), w, by unfold lsM; rw [if_neg hF]; exact Z, RRM.mon G R (m := m) (by omega) (Int32.ofInt (-1)) _ (Or.inr rfl) rfl (by decide) (fun o ho hne hj => ?_) (fun y => absurd y hF) _ nt fun H _ m' hm' hq => ?_⟩
      · have o5 := G.c5 ho
        rw [own] at hj
        exact absurd (ofn_inj (by omega) (by omega) hj).symm hne
      · by_cases y : m' = m
        · rw [qH_succ, if_neg (by omega), if_pos (by rw [y]; exact eS)] at hq
          cases hq
        · rw [setI_no (by omega)]
          rw [qH_succ, if_neg (by omega), if_neg (by omega)] at hq
          exact H hF m' hm' hq
    · exact absurd rfl q
