
set_option maxRecDepth 20000
/-! STEPS ON BOTH SIDES: LOOK -/
theorem RRM.wait {g h hm HN MN HW : Hp} {st c i p : Nat} {v : Int32} (G : GS g) (R : RRM g h hm st c i st (CUn g h hm c i p p p)) (hp : p < stLen (qJ g c i)) (hk : qK g c i = 2 ∨ qK g c i = 5) (nx : ∀ r j : Nat, ¬ (r = (152 + 12 * c + i) ∧ (j = 13 ∨ j = 14)) → HN.1 r j = h.1 r j) (nx2 : HN.2 = h.2) (nm : ∀ K j : Nat, ¬ (K = 249 ∧ j = c) → MN.1 K j = hm.1 K j) (nm2 : MN.2 = hm.2) (tm : TInv MN) (ev : (v = hm.1 254 (4 * qT g c i) ∧ HW = fl_setI (fl_setI (fl_setI HN (152 + 12 * c + i) 10 (Int32.ofInt 1)) (152 + 12 * c + i) 11 (Int32.ofNat st + Int32.ofInt 1)) (152 + 12 * c + i) 12 (h.1 (152 + 12 * c + i) 12 + Int32.ofInt 1)) ∨ (v = Int32.ofInt (-1) ∧ hm.1 254 (4 * qT g c i) = Int32.ofNat c ∧ HW = fl_setI (fl_setI (fl_setI (fl_setI HN (152 + 12 * c + i) 10 (Int32.ofInt 1)) (152 + 12 * c + i) 11 (Int32.ofNat st + Int32.ofInt 1)) (152 + 12 * c + i) 12 (h.1 (152 + 12 * c + i) 12 + Int32.ofInt 1)) (8 + 24 * qT g c i) 0 (Int32.ofInt (-1)))) : RRM g HW (fl_setI (fl_setI (fl_setI (fl_setI (fl_setI MN 254 (4 * qT g c i) v) 245 c (Int32.ofInt 1)) 246 c (hm.1 223 15 + Int32.ofInt 1)) 240 (8 * c + i) (hm.1 240 (8 * c + i) + Int32.ofInt 1)) 244 c (Int32.ofInt (-1))) st c i (st + 1) (CUw g HW (fl_setI (fl_setI (fl_setI (fl_setI (fl_setI MN 254 (4 * qT g c i) v) 245 c (Int32.ofInt 1)) 246 c (hm.1 223 15 + Int32.ofInt 1)) 240 (8 * c + i) (hm.1 240 (8 * c + i) + Int32.ofInt 1)) 244 c (Int32.ofInt (-1))) c i (-1)) := by
  obtain ⟨⟨X, M, S15, K, hT⟩, RT, RO, hc, hi, CK, b1, b2, ⟨u1, u2⟩, u3, u4, u5, u6, u7, u8⟩ := id R
  have c5 := G.c5 hc
  have i8 := G.i8 hc hi
  have T6 := G.T6 hc hi
  obtain ⟨tc, ow1, ow2⟩ := RT _ (G.T hc hi)
  have b69 := TI.rng hT 69 6 0 40 (by decide +kernel) (by decide) (by decide) T6
  have b62 : -1 ≤ (hm.1 254 (4 * qT g c i)).toInt ∧ (hm.1 254 (4 * qT g c i)).toInt ≤ 4 := TI.rng hT 62 24 (-1) 4 (by decide +kernel) (by decide) (by decide) (i := 4 * qT g c i) (by omega)
  have bv : -1 ≤ v.toInt ∧ v.toInt ≤ 4 := by
    rcases ev with ⟨rfl, -⟩ | ⟨rfl, -, -⟩
    · exact b62
    · decide
  have f0 : KFX c i (qT g c i) h HN := ⟨fun r j z1 z2 z3 => nx r j (by omega), fun r j _ _ => by rw [nx2]⟩
  have fx0 : KFX c i (qT g c i) h (fl_setI (fl_setI (fl_setI HN (152 + 12 * c + i) 10 (Int32.ofInt 1)) (152 + 12 * c + i) 11 (Int32.ofNat st + Int32.ofInt 1)) (152 + 12 * c + i) 12 (h.1 (152 + 12 * c + i) 12 + Int32.ofInt 1)) := (((f0.set _ _ _ (by omega)).set _ _ _ (by omega)).set _ _ _ (by omega))
  have fx : KFX c i (qT g c i) h HW := by
    rcases ev with ⟨-, rfl⟩ | ⟨-, -, rfl⟩
    · exact fx0
    · exact fx0.set _ _ _ (by omega)
  have hw2 : HW.2 = h.2 := by
    rcases ev with ⟨-, rfl⟩ | ⟨-, -, rfl⟩
    · exact nx2
    · exact nx2
  have hw : ∀ r j : Nat, ¬ (r = 8 + 24 * qT g c i ∧ j = 0) → HW.1 r j = (fl_setI (fl_setI (fl_setI HN (152 + 12 * c + i) 10 (Int32.ofInt 1)) (152 + 12 * c + i) 11 (Int32.ofNat st + Int32.ofInt 1)) (152 + 12 * c + i) 12 (h.1 (152 + 12 * c + i) 12 + Int32.ofInt 1)).1 r j := fun r j hn => by
    rcases ev with ⟨-, rfl⟩ | ⟨-, -, rfl⟩
    · rfl
    · exact setI_no hn
  have hwo : ∀ m : Nat, m < 4 → HW.1 (8 + 24 * qT g c i) m = (if m = 0 then v else hm.1 254 (4 * qT g c i + m)) := fun m m4 => by
    rcases ev with ⟨rfl, rfl⟩ | ⟨rfl, -, rfl⟩
    · simp (disch := omega) only [setI_at, setI_no]
      rw [nx _ _ (by omega), ow1 m m4]
      by_cases y : m = 0
      · rw [if_pos y, y]
        rfl
      · rw [if_neg y]
    · by_cases y : m = 0
      · rw [if_pos y, y, setI_at]
      · rw [if_neg y]
        simp (disch := omega) only [setI_at, setI_no]
        rw [nx _ _ (by omega), ow1 m m4]
  have m0 : KFM c i (qT g c i) hm MN := ⟨fun K j z0 z1 z2 z3 z4 z5 z6 z7 z8 z9 => nm K j (by omega), nm2⟩
  have fm : KFM c i (qT g c i) hm (fl_setI (fl_setI (fl_setI (fl_setI (fl_setI MN 254 (4 * qT g c i) v) 245 c (Int32.ofInt 1)) 246 c (hm.1 223 15 + Int32.ofInt 1)) 240 (8 * c + i) (hm.1 240 (8 * c + i) + Int32.ofInt 1)) 244 c (Int32.ofInt (-1))) := (((((m0.set _ _ _ (by omega)).set _ _ _ (by omega)).set _ _ _ (by omega)).set _ _ _ (by omega)).set _ _ _ (by omega))
  have mo : ∀ m : Nat, m < 4 → (fl_setI (fl_setI (fl_setI (fl_setI (fl_setI MN 254 (4 * qT g c i) v) 245 c (Int32.ofInt 1)) 246 c (hm.1 223 15 + Int32.ofInt 1)) 240 (8 * c + i) (hm.1 240 (8 * c + i) + Int32.ofInt 1)) 244 c (Int32.ofInt (-1))).1 254 (4 * qT g c i + m) = (if m = 0 then v else hm.1 254 (4 * qT g c i + m)) := fun m m4 => by
    by_cases y : m = 0
    · rw [if_pos y, y]
      simp (disch := omega) only [setI_at, setI_no]
      exact setI_at
    · rw [if_neg y]
      simp (disch := omega) only [setI_at, setI_no]
      exact nm _ _ (by omega)
  refine RRM.go G (by omega) R fx fm (((((tm.a 254 _ (-1) 4 (by decide +kernel) (by decide +kernel) bv).a 245 _ 0 1 (by decide +kernel) (by decide +kernel) (by decide)).full 246 _ _ (by decide +kernel) (by decide +kernel)).full 240 _ _ (by decide +kernel) (by decide +kernel)).a 244 _ (-1) 20 (by decide +kernel) (by decide +kernel) (by decide)) ⟨_, (congrFun (congrFun hw2 _) _).trans u5⟩ (fun o j ho hne hj => ?_) ?_ (tc.fr b69.2 (by omega) ⟨fun j => ⟨?_, ?_, ?_, ?_⟩, fun K j hK h1 h2 => ?_, fun j h1 h2 => ?_, fun K hK => ?_, fun j h1 h2 => ?_⟩) ⟨fun m m4 => by rw [hwo m m4, mo m m4], fun hF m m4 => ?_⟩ ⟨⟨?_, ?_⟩, ?_, ?_, (congrFun (congrFun hw2 _) _).trans u5, ?_, hk, p, hp, ?_⟩
  · simp (disch := omega) only [setI_at, setI_no]
    by_cases y : j = 4 * qT g c i
    · rw [y] at hj ⊢
      rw [setI_at]
      rcases ev with ⟨rfl, -⟩ | ⟨-, q, -⟩
      · exact hj
      · rw [q] at hj
        have o5 := G.c5 ho
        exact absurd (ofn_inj (by omega) (by omega) hj).symm hne
    · rw [setI_no (by omega), nm _ _ (by omega)]
      exact hj
  · unfold WTS
    rw [hw _ _ (by omega), setI_at, setI_no (by omega), setI_at, (CK.2.1 i hi).2]
  · rw [hw _ _ (by omega)]; simp (disch := omega) only [setI_at, setI_no]; exact nx _ _ (by omega)
  · rw [hw _ _ (by omega)]; simp (disch := omega) only [setI_at, setI_no]; exact nx _ _ (by omega)
  · rw [hw _ _ (by omega)]; simp (disch := omega) only [setI_at, setI_no]; exact nx _ _ (by omega)
  · rw [hw _ _ (by omega)]; simp (disch := omega) only [setI_at, setI_no]; exact nx _ _ (by omega)
  · simp (disch := omega) only [setI_at, setI_no]; exact nm _ _ (by omega)
  · simp (disch := omega) only [setI_at, setI_no]; exact nm _ _ (by omega)
  · simp (disch := omega) only [setI_at, setI_no]; exact nm _ _ (by omega)
  · simp (disch := omega) only [setI_at, setI_no]; exact nm _ _ (by omega)
  · rw [mo m m4]
    have q := ow2 hF
    by_cases y : m = 0
    · rw [if_pos y]
      rcases ev with ⟨rfl, -⟩ | ⟨rfl, -, -⟩
      · exact q 0 (by decide)
      · rfl
    · rw [if_neg y]
      exact q m m4
  · rw [hw _ _ (by omega)]; simp (disch := omega) only [setI_at, setI_no]
  · simp (disch := omega) only [setI_at, setI_no]
  · rw [hw _ _ (by omega)]; simp (disch := omega) only [setI_at, setI_no]; rw [S15]
  · rw [setI_at]
  · simp (disch := omega) only [setI_at, setI_no]; rw [nm _ _ (by omega)]; exact u6
  · rw [hw _ _ (by omega)]; simp (disch := omega) only [setI_at, setI_no]; rw [nx _ _ (by omega)]; exact u3
/-- what a look comes to: on, waiting, at the end at once -/
def ZM (g : Hp) (c i p : Nat) (h' hm' : Hp) : Prop := CUn g h' hm' c i (p + 1) p (p + 1) ∨ CUw g h' hm' c i (-1) ∨ CUs g h' hm' c i 2 2 3
theorem RRM.imp {g h hm : Hp} {st c i : Nat} {b : Int} {Z Z' : Prop} (f : Z → Z') (R : RRM g h hm st c i b Z) : RRM g h hm st c i b Z' := by
  obtain ⟨r1, r2, r3, r4, r5, r6, r7, r8, r9⟩ := R
  exact ⟨r1, r2, r3, r4, r5, r6, r7, r8, f r9⟩

theorem go_look_o {g h hm : Hp} {st c i p d d2 : Nat} {r r2 : Option Value × Hp × Nat} (G : GS g) (R : RRM g h hm st c i st (CUn g h hm c i p p p)) (hp : p < stLen (qJ g c i)) (hC : stC (qJ g c i) p = 4) (hk : qK g c i = 5) (e : Ev d 45 (0, [some (.ref 208), some (.ref (148 + 12 * c)), some (.ref (152 + 12 * c + i)), some (.int (Int32.ofNat st)), none], [], h, fl_tot) r) (e2 : Ev d2 158 (113, lsM g c i p, [], hm, fl_tot) r2) : GO g st c i p (lsM g c i p) (ZM g c i p) d2 r r2 := by
  obtain ⟨⟨X, M, S15, K, hT⟩, RT, RO, hc, hi, CK, b1, b2, ⟨u1, u2⟩, u3, u4, u5, u6, u7, u8⟩ := id R
  have c5 := G.c5 hc
  have i8 := G.i8 hc hi
  have T6 := G.T6 hc hi
  have hJ := G.len hc hi
  obtain ⟨p10, hp0, hpl, hcd⟩ := cx G X hc hi (by omega) hp u3 u5
  obtain ⟨eF, eK⟩ := cF G X hc hi
  obtain ⟨s1, s2, s3, s4, s5, s6, s7⟩ := SM.st G M hc hi
  obtain ⟨tc, ow1, ow2⟩ := RT _ (G.T hc hi)
  have I := G.inn hc hi hp
  have tb := G.tb hc hi hp
  have e1 : h.1 (152 + 12 * c + i) 9 + Int32.ofInt 1 = Int32.ofNat (p + 1) := by rw [u3, o32 (by omega)]
  have ex : (Int32.ofNat (8 * c + i)).toNatClampNeg = 8 * c + i := o32c (by omega)
  have ecn : (Int32.ofNat c).toNatClampNeg = c := o32c (by omega)
  have eTn : (Int32.ofNat (qT g c i)).toNatClampNeg = qT g c i := o32c (by omega)
  have b69 := TI.rng hT 69 6 0 40 (by decide +kernel) (by decide) (by decide) T6
  have eO : (g.1 229 (8 * c + i)).toInt = qO g c i := rfl
  have c1 := i32_1
  have c0 := i32_0
  have kS : (Int32.ofInt (qS g c i p)).toInt = 3 := by rw [I.1, hC]; rfl
  have p1 : p = 1 := (tb.2.2.2.1 hC).1
  have rd2 : rdP (qK g c i) (qO g c i) = 2 := (tb.2.2.2.1 hC).2.1
  have a8 := (CK.2.2.1 i (Nat.le_refl _) hi).1
  have em : monI (qK g c i) (qO g c i) (qA g c i) c = 0 := by
    rw [hk]
    rfl
  have hix : (h.1 (152 + 12 * c + i) 8 &&& Int32.ofInt 3).toNatClampNeg = 0 := by
    rw [a8, em]
    decide
  have ow0 : h.1 (8 + 24 * qT g c i) 0 = hm.1 254 (4 * qT g c i) := ow1 0 (by decide)
  have cI : (Int32.ofNat c).toInt = c := i32n (by omega)
  have owc : (hm.1 254 (4 * qT g c i)).toInt = c → hm.1 254 (4 * qT g c i) = Int32.ofNat c := fun z => e61 z (by omega)
  obtain ⟨-, -, -, -, e2⟩ := z_does_look (h := hm) (c := Int32.ofNat c) (x := Int32.ofNat (8 * c + i)) M.1 kS e2
  obtain ⟨d3, v3, h3, n3, e3, e4⟩ := z_c167 e2
  have kg : (g.1 224 (qT g c i)).toInt = 5 := hk
  obtain ⟨a, a32, ea, -⟩ := G.key hc hi (by omega)
  have W := y_go_look_once (X.sq (G.c5 hc)) (G.T6 hc hi) (G.c5 hc) (G.i8 hc hi) (X.ak G hc hi) hp0 hpl (by rw [hcd]; exact hC) (by rw [eK]; exact hk) e
  have Z := z_look_once M.1 (t := Int32.ofNat (qT g c i)) (op := g.1 229 (8 * c + i)) (a := g.1 230 (8 * c + i)) (by rw [ex]; exact s2) (by rw [ex]; exact s5) (by rw [ex]; exact s6) (by rw [eTn, s3]; exact hk) e3
  rw [ea, an31 a32, hix, ow0] at W
  rw [eTn, ecn, ea, i32k (by omega) (by omega), i4z T6, s3, ex] at Z
  have l2 : 2 < stLen (qJ g c i) ∧ 2 ≤ stC (qJ g c i) 2 := by
    have j78 : qJ g c i = 7 ∨ qJ g c i = 8 := by
      unfold qJ stabJ
      rw [hk, if_neg (by decide), if_neg (by decide), if_neg (by decide), if_neg (by decide), if_pos rfl]
      split
      · exact Or.inl rfl
      · exact Or.inr rfl
    rcases j78 with e | e <;> rw [e] <;> decide
  have tk := tc.1 (by omega) a a32
  have tm := (tc.2.2.2 kg).1 a a32
  have bh := hbS (x := h.1 (5 + 24 * qT g c i) 1) a32
  have bm := hbS (x := h.1 (4 + 24 * qT g c i) 9) a32
  rcases W with ⟨q1, q2, q3, q4, q5, q6, q7, q8, q9, q10, q11, q12, w⟩ | ⟨q1, q2, q3, q4, q5, q6, q7, q8, q9, q10, q11, q12, q13, q14, q15, w⟩ | ⟨q1, q2, q3, q4, q5, q6, q7, q8, q9, q10, q11, q12, q13, q14, q15, w⟩ | ⟨q1, q2, q3, q4, q5, q6, q7, q8, q9, q10, q11, w⟩ | ⟨q1, q2, q3, q4, q5, q6, q7, q8, q9, q10, q11, q12, w⟩ | ⟨q1, q2, q3, q4, q5, q6, q7, q8, q9, q10, q11, q12, q13, q14, q15, w⟩ | ⟨q1, q2, q3, q4, q5, q6, q7, q8, q9, q10, q11, q12, q13, q14, q15, w⟩ | ⟨q1, q2, q3, q4, q5, q6, q7, q8, q9, q10, q11, w⟩
  · exfalso; omega
  · exfalso; omega
  · exfalso; omega
  · exfalso; omega
  · rcases Z with ⟨z1, z2, z3, wz⟩ | ⟨z1, z2, z3, z4, wz⟩ | ⟨z1, z2, z3, z4, wz⟩ | ⟨z1, z2, wz⟩
    · obtain ⟨y1, y2, y3⟩ := tri wz
      subst y2
      clear q1 q2 q3 q4 q5 q6 q7 q8 q9 q10 q11 q12 z1 z2 z3 tb I bh bm
      rw [e1] at w
      refine ⟨_, _, w, e4 y1 y3, RRM.imp Or.inl (RRM.cu G (b' := (st : Int) + 1) (by omega) R ((((KFX.refl _ _ _ _).set _ _ _ (by omega)).set _ _ _ (by omega)).set _ _ _ (by omega)) ((KFM.refl _ _ _ _).set _ _ _ (by omega)) (hT.a 249 _ 0 1 (by decide +kernel) (by decide +kernel) (by decide)) ?_ ?_ setI_at rfl ?_ ?_ ?_ ?_ (fun j => ?_) (fun j => ?_) (tc.fr b69.2 (by omega) ⟨fun j => ⟨?_, ?_, ?_, ?_⟩, fun K j hK h1 h2 => ?_, fun j h1 h2 => ?_, fun K hK => ?_, fun j h1 h2 => ?_⟩) ⟨fun z => by omega, fun z => by omega, fun z => by omega, fun z => by omega, fun z => by omega, fun _ _ => ⟨?_, fun z => ?_⟩⟩ (HLD.next G hc hi hp (by omega)))⟩
      all_goals first | (simp (disch := omega) only [setI_at, setI_no, cpy_at, cpy_no]; done) | (simp (disch := omega) only [setI_at, setI_no, cpy_at, cpy_no]; rw [if_neg (by omega)]; decide) | (exfalso; revert z; unfold wrP; split <;> omega)
    · exact absurd (tm.1.mpr z3) (bm.mp q12)
    · exact absurd (tm.1.mpr z3) (bm.mp q12)
    · exact absurd (tk.1.mpr z2) (bh.mp q11)
  · rcases Z with ⟨z1, z2, z3, wz⟩ | ⟨z1, z2, z3, z4, wz⟩ | ⟨z1, z2, z3, z4, wz⟩ | ⟨z1, z2, wz⟩
    · exact absurd z3 (tm.1.mp (Decidable.byContradiction fun y => q12 (bm.mpr y)))
    · obtain ⟨y1, y2, y3⟩ := tri wz
      subst y2
      clear q1 q2 q3 q4 q5 q6 q7 q8 q9 q10 q11 q12 q13 q14 q15 z1 z2 z3 z4 tb I bh bm
      refine ⟨_, _, w, e4 y1 y3, ?_⟩
      have Q := RRM.wait (HN := fl_setI (fl_setI h (152 + 12 * c + i) 14 (Int32.ofInt 0)) (152 + 12 * c + i) 13 (Int32.ofInt 0)) (MN := fl_setI hm 249 c (Int32.ofInt 0)) (v := (hm.1 254 (4 * qT g c i))) G R hp (Or.inr hk) (fun r j z => ?_) rfl (fun K j z => ?_) rfl (hT.a 249 _ 0 1 (by decide +kernel) (by decide +kernel) (by decide)) (Or.inl ⟨rfl, rfl⟩)
      · exact RRM.imp (fun z => Or.inr (Or.inl z)) Q
      · simp (disch := omega) only [setI_at, setI_no]
      · simp (disch := omega) only [setI_at, setI_no]
    · exfalso; omega
    · exact absurd (tk.1.mpr z2) (bh.mp q11)
  · rcases Z with ⟨z1, z2, z3, wz⟩ | ⟨z1, z2, z3, z4, wz⟩ | ⟨z1, z2, z3, z4, wz⟩ | ⟨z1, z2, wz⟩
    · exact absurd z3 (tm.1.mp (Decidable.byContradiction fun y => q12 (bm.mpr y)))
    · exfalso; omega
    · obtain ⟨y1, y2, y3⟩ := tri wz
      subst y2
      have oc := owc (by omega)
      clear q1 q2 q3 q4 q5 q6 q7 q8 q9 q10 q11 q12 q13 q14 q15 z1 z2 z3 z4 tb I bh bm
      refine ⟨_, _, w, e4 y1 y3, ?_⟩
      have Q := RRM.wait (HN := fl_setI (fl_setI h (152 + 12 * c + i) 14 (Int32.ofInt 0)) (152 + 12 * c + i) 13 (Int32.ofInt 0)) (MN := fl_setI hm 249 c (Int32.ofInt 0)) (v := (Int32.ofInt (-1))) G R hp (Or.inr hk) (fun r j z => ?_) rfl (fun K j z => ?_) rfl (hT.a 249 _ 0 1 (by decide +kernel) (by decide +kernel) (by decide)) (Or.inr ⟨rfl, oc, rfl⟩)
      · exact RRM.imp (fun z => Or.inr (Or.inl z)) Q
      · simp (disch := omega) only [setI_at, setI_no]
      · simp (disch := omega) only [setI_at, setI_no]
    · exact absurd (tk.1.mpr z2) (bh.mp q11)
  · rcases Z with ⟨z1, z2, z3, wz⟩ | ⟨z1, z2, z3, z4, wz⟩ | ⟨z1, z2, z3, z4, wz⟩ | ⟨z1, z2, wz⟩
    · exact absurd z2 (tk.1.mp (Decidable.byContradiction fun y => q11 (bh.mpr y)))
    · exact absurd z2 (tk.1.mp (Decidable.byContradiction fun y => q11 (bh.mpr y)))
    · exact absurd z2 (tk.1.mp (Decidable.byContradiction fun y => q11 (bh.mpr y)))
    · obtain ⟨y1, y2, y3⟩ := tri wz
      subst y2
      have tv := tk.2 z2
      clear q1 q2 q3 q4 q5 q6 q7 q8 q9 q10 q11 z1 z2 tb I bh bm
      have e2 : h.1 (152 + 12 * c + i) 9 + Int32.ofInt 1 = Int32.ofNat 2 := by rw [e1, p1]
      rw [e2] at w
      refine ⟨_, _, w, e4 y1 y3, RRM.go G (b' := (st : Int) + 1) (by omega) R (((((KFX.refl _ _ _ _).set _ _ _ (by omega)).set _ _ _ (by omega)).set _ _ _ (by omega)).setR _ |>.set _ _ _ (by omega)) ((((((KFM.refl _ _ _ _).set _ _ _ (by omega)).set _ _ _ (by omega)).set _ _ _ (by omega)).set _ _ _ (by omega)).set _ _ _ (by omega)) (((((hT.a 249 _ 0 1 (by decide +kernel) (by decide +kernel) (by decide)).a 247 _ 0 1 (by decide +kernel) (by decide +kernel) (by decide)).full 248 _ _ (by decide +kernel) (by decide +kernel)).a 251 _ 0 1 (by decide +kernel) (by decide +kernel) (by decide)).a 244 _ (-1) 20 (by decide +kernel) (by decide +kernel) (by decide)) ⟨_, if_pos ⟨rfl, rfl⟩⟩ (fun o j ho hne hj => ?_) ((CK.2.1 i hi).2.of ?_ ?_) (tc.fr b69.2 (by omega) ⟨fun j => ⟨?_, ?_, ?_, ?_⟩, fun K j hK h1 h2 => ?_, fun j h1 h2 => ?_, fun K hK => ?_, fun j h1 h2 => ?_⟩) (OWN.fr (fun j => ?_) (fun j h1 h2 => ?_) ⟨ow1, ow2⟩) (Or.inr (Or.inr ⟨⟨?_, ?_⟩, ?_, ?_, if_pos ⟨rfl, rfl⟩, ?_, hk, ⟨?_, ?_⟩, ?_⟩))⟩
      case refine_1 => simp (disch := omega) only [setI_at, setI_no]; exact hj
      all_goals first | (simp (disch := omega) only [setI_at, setI_no, rR1]; done) | (simp (disch := omega) only [setI_at, setI_no, rR1]; first | exact u1 | exact u2 | decide | rfl | exact tv) | skip
      intro zF m m4 hh
      simp (disch := omega) only [setI_at, setI_no]
      have n2 := HLD.next G hc hi (p := 2) l2.1 l2.2 (by have := HLD.next G hc hi hp (by omega) u8; rw [p1] at this; exact this)
      exact n2 zF m m4 hh
