
set_option maxRecDepth 20000
/-! STEPS ON BOTH SIDES: LOOK of a DEQUE -/
set_option maxHeartbeats 8000000 in
theorem go_look_d {g h hm : Hp} {st c i p d d2 : Nat} {r r2 : Option Value × Hp × Nat} (G : GS g) (R : RRM g h hm st c i st (CUn g h hm c i p p p)) (hp : p < stLen (qJ g c i)) (hC : stC (qJ g c i) p = 4) (hk : qK g c i = 2) (e : Ev d 45 (0, [some (.ref 208), some (.ref (148 + 12 * c)), some (.ref (152 + 12 * c + i)), some (.int (Int32.ofNat st)), none], [], h, fl_tot) r) (e2 : Ev d2 158 (113, lsM g c i p, [], hm, fl_tot) r2) : GO g st c i p (lsM g c i p) (ZM g c i p) d2 r r2 := by
  obtain ⟨⟨X, M, S15, K, hT⟩, RT, RO, hc, hi, CK, b1, b2, ⟨u1, u2⟩, u3, u4, u5, u6, u7, u8⟩ := id R
  have c5 := G.c5 hc
  have i8 := G.i8 hc hi
  have T6 := G.T6 hc hi
  have hJ := G.len hc hi
  obtain ⟨p10, hp0, hpl, hcd⟩ := cx G X hc hi (by omega) hp u3 u5
  obtain ⟨eF, eK⟩ := cF G X hc hi
  obtain ⟨s1, s2, s3, s4, s5, s6, s7⟩ := SM.st G M hc hi
  obtain ⟨tc, ow1, ow2⟩ := RT _ (G.T hc hi)
  have I := G.inn hc hi hp
  have tb := G.tb hc hi hp
  have e1 : h.1 (152 + 12 * c + i) 9 + Int32.ofInt 1 = Int32.ofNat (p + 1) := by rw [u3, o32 (by omega)]
  have ex : (Int32.ofNat (8 * c + i)).toNatClampNeg = 8 * c + i := o32c (by omega)
  have ecn : (Int32.ofNat c).toNatClampNeg = c := o32c (by omega)
  have eTn : (Int32.ofNat (qT g c i)).toNatClampNeg = qT g c i := o32c (by omega)
  have b69 := TI.rng hT 69 6 0 40 (by decide +kernel) (by decide) (by decide) T6
  have eO : (g.1 229 (8 * c + i)).toInt = qO g c i := rfl
  have c1 := i32_1
  have c0 := i32_0
  have kS : (Int32.ofInt (qS g c i p)).toInt = 3 := by rw [I.1, hC]; rfl
  have p1 : p = 1 := (tb.2.2.2.1 hC).1
  have rd2 : rdP (qK g c i) (qO g c i) = 2 := (tb.2.2.2.1 hC).2.1
  have a8 := (CK.2.2.1 i (Nat.le_refl _) hi).1
  have em : monI (qK g c i) (qO g c i) (qA g c i) c = 0 := by
    rw [hk]
    rfl
  have hix : (h.1 (152 + 12 * c + i) 8 &&& Int32.ofInt 3).toNatClampNeg = 0 := by
    rw [a8, em]
    decide
  have ow0 : h.1 (8 + 24 * qT g c i) 0 = hm.1 254 (4 * qT g c i) := ow1 0 (by decide)
  have cI : (Int32.ofNat c).toInt = c := i32n (by omega)
  have owc : (hm.1 254 (4 * qT g c i)).toInt = c → hm.1 254 (4 * qT g c i) = Int32.ofNat c := fun z => e61 z (by omega)
  obtain ⟨-, -, -, -, e2⟩ := z_does_look (h := hm) (c := Int32.ofNat c) (x := Int32.ofNat (8 * c + i)) M.1 kS e2
  obtain ⟨d3, v3, h3, n3, e3, e4⟩ := z_c167 e2
  have kg : (g.1 224 (qT g c i)).toInt = 2 := hk
  have b70 : 0 ≤ (hm.1 262 (qT g c i)).toInt ∧ (hm.1 262 (qT g c i)).toInt ≤ 1 := TI.rng hT 70 6 0 1 (by decide +kernel) (by decide) (by decide) (i := qT g c i) (by omega)
  have b0 : 0 ≤ (hm.1 261 (qT g c i)).toInt := b69.1
  have b40 : (hm.1 261 (qT g c i)).toInt ≤ 40 := b69.2
  have op1 : 0 ≤ qO g c i ∧ qO g c i ≤ 4 := by
    obtain ⟨-, -, o3, o4⟩ := G.op hc hi
    rw [hk] at o4
    exact ⟨o3, o4⟩
  have er : (h.1 (4 + 24 * qT g c i) 7).toInt = (hm.1 225 (qT g c i)).toInt := by
    rw [(X.2.2.1 _ (G.T hc hi)).2.1, M.2.2.2 225 _ (by decide) (by decide)]
  have W := y_go_look_deque (X.sq (G.c5 hc)) (G.T6 hc hi) (G.c5 hc) (G.i8 hc hi) (X.ak G hc hi) hp0 hpl (by rw [hcd]; exact hC) (by rw [eK]; exact hk) e
  have Z := z_look_deque M.1 (t := Int32.ofNat (qT g c i)) (op := g.1 229 (8 * c + i)) (a := g.1 230 (8 * c + i)) (by rw [ex]; exact s2) (by rw [ex]; exact s5) (by rw [ex]; exact s6) (by rw [eTn, s3]; omega) e3
  have tq := tc.2.1 (by omega)
  have tl := congrArg Int32.toInt tq.1
  have t4 := tq.2.2.2
  obtain ⟨n, em2⟩ : ∃ n : Nat, (hm.1 261 (qT g c i)).toInt = n := ⟨(hm.1 261 (qT g c i)).toInt.toNat, by omega⟩
  have en := e61 em2 (by omega)
  have el : h.1 (5 + 24 * qT g c i) 3 = Int32.ofNat n := tq.1.trans en
  rw [hix, ow0] at W
  rw [eTn, ecn, i4z T6, s3, ex, show Int32.ofInt 48 * Int32.ofNat (qT g c i) + Int32.ofInt 0 = Int32.ofInt 48 * Int32.ofNat (qT g c i) from Int32.add_zero _, i48z T6] at Z
  have op5 : qO g c i = 0 ∨ qO g c i = 1 ∨ qO g c i = 2 ∨ qO g c i = 3 ∨ qO g c i = 4 := by omega
  rcases op5 with o0 | o0 | o0 | o0 | o0
  · by_cases yC : (hm.1 262 (qT g c i)).toInt = 0
    · have h4 : (h.1 (5 + 24 * qT g c i) 4).toInt ≤ 0 := by omega
      by_cases yr : (hm.1 261 (qT g c i)).toInt < (hm.1 225 (qT g c i)).toInt
      · rcases W with ⟨q1, q2, q3, q4, q5, q6, q7, q8, q9, q10, q11, q12, q13, q14, w⟩ | ⟨q1, q2, q3, q4, q5, q6, q7, q8, q9, q10, q11, q12, q13, q14, q15, q16, q17, w⟩ | ⟨q1, q2, q3, q4, q5, q6, q7, q8, q9, q10, q11, q12, q13, q14, q15, q16, q17, w⟩ | ⟨q1, q2, q3, q4, q5, q6, q7, q8, q9, q10, q11, q12, q13, w⟩ | ⟨q1, q2, q3, q4, q5, q6, q7, q8, q9, q10, q11, q12, q13, q14, q15, q16, q17, q18, w⟩ | ⟨q1, q2, q3, q4, q5, q6, q7, q8, q9, q10, q11, q12, q13, q14, q15, q16, q17, q18, w⟩ | ⟨q1, q2, q3, q4, q5, q6, q7, q8, q9, q10, q11, q12, q13, q14, q15, w⟩ | ⟨q1, q2, q3, q4, q5, q6, q7, q8, q9, q10, q11, q12, q13, q14, q15, w⟩ | ⟨q1, q2, q3, q4, q5, q6, q7, q8, q9, q10, q11, q12, q13, q14, q15, w⟩ | ⟨q1, q2, q3, q4, q5, q6, q7, q8, q9, q10, q11, q12, q13, q14, q15, w⟩ | ⟨q1, q2, q3, q4, q5, q6, q7, q8, q9, q10, q11, q12, q13, q14, q15, q16, q17, q18, w⟩ | ⟨q1, q2, q3, q4, q5, q6, q7, q8, q9, q10, q11, q12, q13, q14, q15, q16, q17, q18, w⟩ | ⟨q1, q2, q3, q4, q5, q6, q7, q8, q9, q10, q11, q12, q13, q14, w⟩ | ⟨q1, q2, q3, q4, q5, q6, q7, q8, q9, q10, q11, w⟩ | ⟨q1, q2, q3, q4, q5, q6, q7, q8, q9, q10, q11, q12, q13, q14, w⟩ | ⟨q1, q2, q3, q4, q5, q6, q7, q8, q9, q10, q11, q12, q13, q14, q15, q16, q17, w⟩ | ⟨q1, q2, q3, q4, q5, q6, q7, q8, q9, q10, q11, q12, q13, q14, q15, q16, q17, w⟩ | ⟨q1, q2, q3, q4, q5, q6, q7, q8, q9, q10, q11, q12, q13, w⟩ | ⟨q1, q2, q3, q4, q5, q6, q7, q8, q9, q10, q11, q12, q13, q14, q15, q16, q17, q18, w⟩ | ⟨q1, q2, q3, q4, q5, q6, q7, q8, q9, q10, q11, q12, q13, q14, q15, q16, q17, q18, w⟩ | ⟨q1, q2, q3, q4, q5, q6, q7, q8, q9, q10, q11, q12, q13, q14, q15, w⟩ | ⟨q1, q2, q3, q4, q5, q6, q7, q8, q9, q10, q11, q12, q13, q14, q15, w⟩ | ⟨q1, q2, q3, q4, q5, q6, q7, q8, q9, q10, q11, q12, q13, q14, q15, w⟩ | ⟨q1, q2, q3, q4, q5, q6, q7, q8, q9, q10, q11, q12, q13, q14, q15, w⟩ | ⟨q1, q2, q3, q4, q5, q6, q7, q8, q9, q10, q11, q12, q13, q14, q15, q16, q17, q18, w⟩ | ⟨q1, q2, q3, q4, q5, q6, q7, q8, q9, q10, q11, q12, q13, q14, q15, q16, q17, q18, w⟩ | ⟨q1, q2, q3, q4, q5, q6, q7, q8, q9, q10, q11, q12, q13, q14, w⟩ | ⟨q1, q2, q3, q4, q5, q6, q7, q8, q9, q10, q11, w⟩
        · exfalso; omega
        · exfalso; omega
        · exfalso; omega
        · exfalso; omega
        · exfalso; omega
        · exfalso; omega
        · exfalso; omega
        · exfalso; omega
        · exfalso; omega
        · exfalso; omega
        · exfalso; omega
        · exfalso; omega
        · exfalso; omega
        · exfalso; omega
        · clear q1 q2 q3 q4 q5 q6 q7 q8 q9 q10 q11 q12 q13 q14
          rcases Z with ⟨z1, z2, z3, wz⟩ | ⟨z1, z2, z3, z4, z5, z6, wz⟩ | ⟨z1, z2, z3, z4, z5, z6, wz⟩ | ⟨z1, z2, z3, z4, z5, wz⟩ | ⟨z1, z2, z3, z4, z5, wz⟩ | ⟨z1, z2, z3, z4, z5, wz⟩ | ⟨z1, z2, z3, wz⟩ | ⟨z1, z2, z3, z4, wz⟩ | ⟨z1, z2, z3, z4, z5, wz⟩ | ⟨z1, z2, z3, z4, z5, wz⟩
          · exfalso; omega
          · exfalso; omega
          · exfalso; omega
          · exfalso; omega
          · exfalso; omega
          · exfalso; omega
          · exfalso; omega
          · clear z1 z2 z3 z4 tb I
            obtain ⟨y1, y2, y3⟩ := tri wz
            subst y2
            rw [e1] at w
            refine ⟨_, _, w, e4 y1 y3, RRM.imp Or.inl (RRM.cu G (b' := (st : Int) + 1) (by omega) R (((((KFX.refl _ _ _ _).set _ _ _ (by omega)).set _ _ _ (by omega)).set _ _ _ (by omega)).set _ _ _ (by omega)) (((KFM.refl _ _ _ _).set _ _ _ (by omega)).set _ _ _ (by omega)) ((hT.a 249 _ 0 1 (by decide +kernel) (by decide +kernel) (by first | exact b70 | decide)).a 249 _ 0 1 (by decide +kernel) (by decide +kernel) (by first | exact b70 | decide)) ?_ ?_ setI_at rfl ?_ ?_ ?_ ?_ (fun j => ?_) (fun j => ?_) (tc.fr b69.2 (by omega) ⟨fun j => ⟨?_, ?_, ?_, ?_⟩, fun K j hK h1 h2 => ?_, fun j h1 h2 => ?_, fun K hK => ?_, fun j h1 h2 => ?_⟩) ⟨fun z => by omega, fun z => by omega, fun _ _ => ⟨?_, fun z => ?_⟩, fun z => by omega, fun z => by omega, fun z => by omega⟩ (HLD.next G hc hi hp (by omega)))⟩
            all_goals first | (simp (disch := omega) only [setI_at, setI_no, cpy_at, cpy_no]; done) | (simp (disch := omega) only [setI_at, setI_no, cpy_at, cpy_no]; first | decide | rfl | (rw [if_neg (fun y => y yC)]; decide) | (rw [if_pos yC]; decide) | (rw [if_pos (by omega)]; done) | (rw [if_neg (by omega), if_pos (by omega)]; done) | (rw [if_neg (by omega), if_neg (by omega)]; exact hv) | (rw [if_pos (by decide)]; decide)) | (simp (disch := omega) only [setI_at, setI_no, cpy_at, cpy_no] at z; exfalso; first | exact absurd z (by decide) | exact yC z)
          · exfalso; omega
          · exfalso; omega
        · exfalso; omega
        · exfalso; omega
        · exfalso; omega
        · exfalso; omega
        · exfalso; omega
        · exfalso; omega
        · exfalso; omega
        · exfalso; omega
        · exfalso; omega
        · exfalso; omega
        · exfalso; omega
        · exfalso; omega
        · exfalso; omega
      · by_cases yo : (hm.1 254 (4 * qT g c i)).toInt = c
        · have oc := owc yo
          rcases W with ⟨q1, q2, q3, q4, q5, q6, q7, q8, q9, q10, q11, q12, q13, q14, w⟩ | ⟨q1, q2, q3, q4, q5, q6, q7, q8, q9, q10, q11, q12, q13, q14, q15, q16, q17, w⟩ | ⟨q1, q2, q3, q4, q5, q6, q7, q8, q9, q10, q11, q12, q13, q14, q15, q16, q17, w⟩ | ⟨q1, q2, q3, q4, q5, q6, q7, q8, q9, q10, q11, q12, q13, w⟩ | ⟨q1, q2, q3, q4, q5, q6, q7, q8, q9, q10, q11, q12, q13, q14, q15, q16, q17, q18, w⟩ | ⟨q1, q2, q3, q4, q5, q6, q7, q8, q9, q10, q11, q12, q13, q14, q15, q16, q17, q18, w⟩ | ⟨q1, q2, q3, q4, q5, q6, q7, q8, q9, q10, q11, q12, q13, q14, q15, w⟩ | ⟨q1, q2, q3, q4, q5, q6, q7, q8, q9, q10, q11, q12, q13, q14, q15, w⟩ | ⟨q1, q2, q3, q4, q5, q6, q7, q8, q9, q10, q11, q12, q13, q14, q15, w⟩ | ⟨q1, q2, q3, q4, q5, q6, q7, q8, q9, q10, q11, q12, q13, q14, q15, w⟩ | ⟨q1, q2, q3, q4, q5, q6, q7, q8, q9, q10, q11, q12, q13, q14, q15, q16, q17, q18, w⟩ | ⟨q1, q2, q3, q4, q5, q6, q7, q8, q9, q10, q11, q12, q13, q14, q15, q16, q17, q18, w⟩ | ⟨q1, q2, q3, q4, q5, q6, q7, q8, q9, q10, q11, q12, q13, q14, w⟩ | ⟨q1, q2, q3, q4, q5, q6, q7, q8, q9, q10, q11, w⟩ | ⟨q1, q2, q3, q4, q5, q6, q7, q8, q9, q10, q11, q12, q13, q14, w⟩ | ⟨q1, q2, q3, q4, q5, q6, q7, q8, q9, q10, q11, q12, q13, q14, q15, q16, q17, w⟩ | ⟨q1, q2, q3, q4, q5, q6, q7, q8, q9, q10, q11, q12, q13, q14, q15, q16, q17, w⟩ | ⟨q1, q2, q3, q4, q5, q6, q7, q8, q9, q10, q11, q12, q13, w⟩ | ⟨q1, q2, q3, q4, q5, q6, q7, q8, q9, q10, q11, q12, q13, q14, q15, q16, q17, q18, w⟩ | ⟨q1, q2, q3, q4, q5, q6, q7, q8, q9, q10, q11, q12, q13, q14, q15, q16, q17, q18, w⟩ | ⟨q1, q2, q3, q4, q5, q6, q7, q8, q9, q10, q11, q12, q13, q14, q15, w⟩ | ⟨q1, q2, q3, q4, q5, q6, q7, q8, q9, q10, q11, q12, q13, q14, q15, w⟩ | ⟨q1, q2, q3, q4, q5, q6, q7, q8, q9, q10, q11, q12, q13, q14, q15, w⟩ | ⟨q1, q2, q3, q4, q5, q6, q7, q8, q9, q10, q11, q12, q13, q14, q15, w⟩ | ⟨q1, q2, q3, q4, q5, q6, q7, q8, q9, q10, q11, q12, q13, q14, q15, q16, q17, q18, w⟩ | ⟨q1, q2, q3, q4, q5, q6, q7, q8, q9, q10, q11, q12, q13, q14, q15, q16, q17, q18, w⟩ | ⟨q1, q2, q3, q4, q5, q6, q7, q8, q9, q10, q11, q12, q13, q14, w⟩ | ⟨q1, q2, q3, q4, q5, q6, q7, q8, q9, q10, q11, w⟩
          · exfalso; omega
          · exfalso; omega
          · exfalso; omega
          · exfalso; omega
          · exfalso; omega
          · exfalso; omega
          · exfalso; omega
          · exfalso; omega
          · exfalso; omega
          · exfalso; omega
          · exfalso; omega
          · exfalso; omega
          · exfalso; omega
          · exfalso; omega
          · exfalso; omega
          · exfalso; omega
          · clear q1 q2 q3 q4 q5 q6 q7 q8 q9 q10 q11 q12 q13 q14 q15 q16 q17
            rcases Z with ⟨z1, z2, z3, wz⟩ | ⟨z1, z2, z3, z4, z5, z6, wz⟩ | ⟨z1, z2, z3, z4, z5, z6, wz⟩ | ⟨z1, z2, z3, z4, z5, wz⟩ | ⟨z1, z2, z3, z4, z5, wz⟩ | ⟨z1, z2, z3, z4, z5, wz⟩ | ⟨z1, z2, z3, wz⟩ | ⟨z1, z2, z3, z4, wz⟩ | ⟨z1, z2, z3, z4, z5, wz⟩ | ⟨z1, z2, z3, z4, z5, wz⟩
            · exfalso; omega
            · exfalso; omega
            · exfalso; omega
            · exfalso; omega
            · exfalso; omega
            · exfalso; omega
            · exfalso; omega
            · exfalso; omega
            · exfalso; omega
            · clear z1 z2 z3 z4 z5 tb I
              obtain ⟨y1, y2, y3⟩ := tri wz
              subst y2
              refine ⟨_, _, w, e4 y1 y3, ?_⟩
              have Q := RRM.wait (HN := fl_setI (fl_setI (fl_setI h (152 + 12 * c + i) 14 (Int32.ofInt 0)) (152 + 12 * c + i) 13 (Int32.ofInt 0)) (152 + 12 * c + i) 13 (g.1 230 (8 * c + i))) (MN := fl_setI (fl_setI hm 249 c (Int32.ofInt 0)) 249 c (hm.1 262 (qT g c i))) (v := (Int32.ofInt (-1))) G R hp (Or.inl hk) (fun r j z => ?_) rfl (fun K j z => ?_) rfl ((hT.a 249 _ 0 1 (by decide +kernel) (by decide +kernel) (by decide)).a 249 _ 0 1 (by decide +kernel) (by decide +kernel) b70) (Or.inr ⟨rfl, oc, rfl⟩)
              · exact RRM.imp (fun z => Or.inr (Or.inl z)) Q
              · simp (disch := omega) only [setI_at, setI_no]
              · simp (disch := omega) only [setI_at, setI_no]
          · exfalso; omega
          · exfalso; omega
          · exfalso; omega
          · exfalso; omega
          · exfalso; omega
          · exfalso; omega
          · exfalso; omega
          · exfalso; omega
          · exfalso; omega
          · exfalso; omega
          · exfalso; omega
        · rcases W with ⟨q1, q2, q3, q4, q5, q6, q7, q8, q9, q10, q11, q12, q13, q14, w⟩ | ⟨q1, q2, q3, q4, q5, q6, q7, q8, q9, q10, q11, q12, q13, q14, q15, q16, q17, w⟩ | ⟨q1, q2, q3, q4, q5, q6, q7, q8, q9, q10, q11, q12, q13, q14, q15, q16, q17, w⟩ | ⟨q1, q2, q3, q4, q5, q6, q7, q8, q9, q10, q11, q12, q13, w⟩ | ⟨q1, q2, q3, q4, q5, q6, q7, q8, q9, q10, q11, q12, q13, q14, q15, q16, q17, q18, w⟩ | ⟨q1, q2, q3, q4, q5, q6, q7, q8, q9, q10, q11, q12, q13, q14, q15, q16, q17, q18, w⟩ | ⟨q1, q2, q3, q4, q5, q6, q7, q8, q9, q10, q11, q12, q13, q14, q15, w⟩ | ⟨q1, q2, q3, q4, q5, q6, q7, q8, q9, q10, q11, q12, q13, q14, q15, w⟩ | ⟨q1, q2, q3, q4, q5, q6, q7, q8, q9, q10, q11, q12, q13, q14, q15, w⟩ | ⟨q1, q2, q3, q4, q5, q6, q7, q8, q9, q10, q11, q12, q13, q14, q15, w⟩ | ⟨q1, q2, q3, q4, q5, q6, q7, q8, q9, q10, q11, q12, q13, q14, q15, q16, q17, q18, w⟩ | ⟨q1, q2, q3, q4, q5, q6, q7, q8, q9, q10, q11, q12, q13, q14, q15, q16, q17, q18, w⟩ | ⟨q1, q2, q3, q4, q5, q6, q7, q8, q9, q10, q11, q12, q13, q14, w⟩ | ⟨q1, q2, q3, q4, q5, q6, q7, q8, q9, q10, q11, w⟩ | ⟨q1, q2, q3, q4, q5, q6, q7, q8, q9, q10, q11, q12, q13, q14, w⟩ | ⟨q1, q2, q3, q4, q5, q6, q7, q8, q9, q10, q11, q12, q13, q14, q15, q16, q17, w⟩ | ⟨q1, q2, q3, q4, q5, q6, q7, q8, q9, q10, q11, q12, q13, q14, q15, q16, q17, w⟩ | ⟨q1, q2, q3, q4, q5, q6, q7, q8, q9, q10, q11, q12, q13, w⟩ | ⟨q1, q2, q3, q4, q5, q6, q7, q8, q9, q10, q11, q12, q13, q14, q15, q16, q17, q18, w⟩ | ⟨q1, q2, q3, q4, q5, q6, q7, q8, q9, q10, q11, q12, q13, q14, q15, q16, q17, q18, w⟩ | ⟨q1, q2, q3, q4, q5, q6, q7, q8, q9, q10, q11, q12, q13, q14, q15, w⟩ | ⟨q1, q2, q3, q4, q5, q6, q7, q8, q9, q10, q11, q12, q13, q14, q15, w⟩ | ⟨q1, q2, q3, q4, q5, q6, q7, q8, q9, q10, q11, q12, q13, q14, q15, w⟩ | ⟨q1, q2, q3, q4, q5, q6, q7, q8, q9, q10, q11, q12, q13, q14, q15, w⟩ | ⟨q1, q2, q3, q4, q5, q6, q7, q8, q9, q10, q11, q12, q13, q14, q15, q16, q17, q18, w⟩ | ⟨q1, q2, q3, q4, q5, q6, q7, q8, q9, q10, q11, q12, q13, q14, q15, q16, q17, q18, w⟩ | ⟨q1, q2, q3, q4, q5, q6, q7, q8, q9, q10, q11, q12, q13, q14, w⟩ | ⟨q1, q2, q3, q4, q5, q6, q7, q8, q9, q10, q11, w⟩
          · exfalso; omega
          · exfalso; omega
          · exfalso; omega
          · exfalso; omega
          · exfalso; omega
          · exfalso; omega
          · exfalso; omega
          · exfalso; omega
          · exfalso; omega
          · exfalso; omega
          · exfalso; omega
          · exfalso; omega
          · exfalso; omega
          · exfalso; omega
          · exfalso; omega
          · clear q1 q2 q3 q4 q5 q6 q7 q8 q9 q10 q11 q12 q13 q14 q15 q16 q17
            rcases Z with ⟨z1, z2, z3, wz⟩ | ⟨z1, z2, z3, z4, z5, z6, wz⟩ | ⟨z1, z2, z3, z4, z5, z6, wz⟩ | ⟨z1, z2, z3, z4, z5, wz⟩ | ⟨z1, z2, z3, z4, z5, wz⟩ | ⟨z1, z2, z3, z4, z5, wz⟩ | ⟨z1, z2, z3, wz⟩ | ⟨z1, z2, z3, z4, wz⟩ | ⟨z1, z2, z3, z4, z5, wz⟩ | ⟨z1, z2, z3, z4, z5, wz⟩
            · exfalso; omega
            · exfalso; omega
            · exfalso; omega
            · exfalso; omega
            · exfalso; omega
            · exfalso; omega
            · exfalso; omega
            · exfalso; omega
            · clear z1 z2 z3 z4 z5 tb I
              obtain ⟨y1, y2, y3⟩ := tri wz
              subst y2
              refine ⟨_, _, w, e4 y1 y3, ?_⟩
              have Q := RRM.wait (HN := fl_setI (fl_setI (fl_setI h (152 + 12 * c + i) 14 (Int32.ofInt 0)) (152 + 12 * c + i) 13 (Int32.ofInt 0)) (152 + 12 * c + i) 13 (g.1 230 (8 * c + i))) (MN := fl_setI (fl_setI hm 249 c (Int32.ofInt 0)) 249 c (hm.1 262 (qT g c i))) (v := (hm.1 254 (4 * qT g c i))) G R hp (Or.inl hk) (fun r j z => ?_) rfl (fun K j z => ?_) rfl ((hT.a 249 _ 0 1 (by decide +kernel) (by decide +kernel) (by decide)).a 249 _ 0 1 (by decide +kernel) (by decide +kernel) b70) (Or.inl ⟨rfl, rfl⟩)
              · exact RRM.imp (fun z => Or.inr (Or.inl z)) Q
              · simp (disch := omega) only [setI_at, setI_no]
              · simp (disch := omega) only [setI_at, setI_no]
            · exfalso; omega
          · exfalso; omega
          · exfalso; omega
          · exfalso; omega
          · exfalso; omega
          · exfalso; omega
          · exfalso; omega
          · exfalso; omega
          · exfalso; omega
          · exfalso; omega
          · exfalso; omega
          · exfalso; omega
          · exfalso; omega
    · have h4 : (h.1 (5 + 24 * qT g c i) 4).toInt > 0 := by omega
      rcases W with ⟨q1, q2, q3, q4, q5, q6, q7, q8, q9, q10, q11, q12, q13, q14, w⟩ | ⟨q1, q2, q3, q4, q5, q6, q7, q8, q9, q10, q11, q12, q13, q14, q15, q16, q17, w⟩ | ⟨q1, q2, q3, q4, q5, q6, q7, q8, q9, q10, q11, q12, q13, q14, q15, q16, q17, w⟩ | ⟨q1, q2, q3, q4, q5, q6, q7, q8, q9, q10, q11, q12, q13, w⟩ | ⟨q1, q2, q3, q4, q5, q6, q7, q8, q9, q10, q11, q12, q13, q14, q15, q16, q17, q18, w⟩ | ⟨q1, q2, q3, q4, q5, q6, q7, q8, q9, q10, q11, q12, q13, q14, q15, q16, q17, q18, w⟩ | ⟨q1, q2, q3, q4, q5, q6, q7, q8, q9, q10, q11, q12, q13, q14, q15, w⟩ | ⟨q1, q2, q3, q4, q5, q6, q7, q8, q9, q10, q11, q12, q13, q14, q15, w⟩ | ⟨q1, q2, q3, q4, q5, q6, q7, q8, q9, q10, q11, q12, q13, q14, q15, w⟩ | ⟨q1, q2, q3, q4, q5, q6, q7, q8, q9, q10, q11, q12, q13, q14, q15, w⟩ | ⟨q1, q2, q3, q4, q5, q6, q7, q8, q9, q10, q11, q12, q13, q14, q15, q16, q17, q18, w⟩ | ⟨q1, q2, q3, q4, q5, q6, q7, q8, q9, q10, q11, q12, q13, q14, q15, q16, q17, q18, w⟩ | ⟨q1, q2, q3, q4, q5, q6, q7, q8, q9, q10, q11, q12, q13, q14, w⟩ | ⟨q1, q2, q3, q4, q5, q6, q7, q8, q9, q10, q11, w⟩ | ⟨q1, q2, q3, q4, q5, q6, q7, q8, q9, q10, q11, q12, q13, q14, w⟩ | ⟨q1, q2, q3, q4, q5, q6, q7, q8, q9, q10, q11, q12, q13, q14, q15, q16, q17, w⟩ | ⟨q1, q2, q3, q4, q5, q6, q7, q8, q9, q10, q11, q12, q13, q14, q15, q16, q17, w⟩ | ⟨q1, q2, q3, q4, q5, q6, q7, q8, q9, q10, q11, q12, q13, w⟩ | ⟨q1, q2, q3, q4, q5, q6, q7, q8, q9, q10, q11, q12, q13, q14, q15, q16, q17, q18, w⟩ | ⟨q1, q2, q3, q4, q5, q6, q7, q8, q9, q10, q11, q12, q13, q14, q15, q16, q17, q18, w⟩ | ⟨q1, q2, q3, q4, q5, q6, q7, q8, q9, q10, q11, q12, q13, q14, q15, w⟩ | ⟨q1, q2, q3, q4, q5, q6, q7, q8, q9, q10, q11, q12, q13, q14, q15, w⟩ | ⟨q1, q2, q3, q4, q5, q6, q7, q8, q9, q10, q11, q12, q13, q14, q15, w⟩ | ⟨q1, q2, q3, q4, q5, q6, q7, q8, q9, q10, q11, q12, q13, q14, q15, w⟩ | ⟨q1, q2, q3, q4, q5, q6, q7, q8, q9, q10, q11, q12, q13, q14, q15, q16, q17, q18, w⟩ | ⟨q1, q2, q3, q4, q5, q6, q7, q8, q9, q10, q11, q12, q13, q14, q15, q16, q17, q18, w⟩ | ⟨q1, q2, q3, q4, q5, q6, q7, q8, q9, q10, q11, q12, q13, q14, w⟩ | ⟨q1, q2, q3, q4, q5, q6, q7, q8, q9, q10, q11, w⟩
      · exfalso; omega
      · exfalso; omega
      · exfalso; omega
      · exfalso; omega
      · exfalso; omega
      · exfalso; omega
      · exfalso; omega
      · exfalso; omega
      · exfalso; omega
      · exfalso; omega
      · exfalso; omega
      · exfalso; omega
      · exfalso; omega
      · exfalso; omega
      · exfalso; omega
      · exfalso; omega
      · exfalso; omega
      · clear q1 q2 q3 q4 q5 q6 q7 q8 q9 q10 q11 q12 q13
        rcases Z with ⟨z1, z2, z3, wz⟩ | ⟨z1, z2, z3, z4, z5, z6, wz⟩ | ⟨z1, z2, z3, z4, z5, z6, wz⟩ | ⟨z1, z2, z3, z4, z5, wz⟩ | ⟨z1, z2, z3, z4, z5, wz⟩ | ⟨z1, z2, z3, z4, z5, wz⟩ | ⟨z1, z2, z3, wz⟩ | ⟨z1, z2, z3, z4, wz⟩ | ⟨z1, z2, z3, z4, z5, wz⟩ | ⟨z1, z2, z3, z4, z5, wz⟩
        · exfalso; omega
        · exfalso; omega
        · exfalso; omega
        · exfalso; omega
        · exfalso; omega
        · exfalso; omega
        · clear z1 z2 z3 tb I
          obtain ⟨y1, y2, y3⟩ := tri wz
          subst y2
          rw [e1] at w
          refine ⟨_, _, w, e4 y1 y3, RRM.imp Or.inl (RRM.cu G (b' := (st : Int) + 1) (by omega) R (((((KFX.refl _ _ _ _).set _ _ _ (by omega)).set _ _ _ (by omega)).set _ _ _ (by omega)).set _ _ _ (by omega)) (((KFM.refl _ _ _ _).set _ _ _ (by omega)).set _ _ _ (by omega)) ((hT.a 249 _ 0 1 (by decide +kernel) (by decide +kernel) (by first | exact b70 | decide)).a 249 _ 0 1 (by decide +kernel) (by decide +kernel) (by first | exact b70 | decide)) ?_ ?_ setI_at rfl ?_ ?_ ?_ ?_ (fun j => ?_) (fun j => ?_) (tc.fr b69.2 (by omega) ⟨fun j => ⟨?_, ?_, ?_, ?_⟩, fun K j hK h1 h2 => ?_, fun j h1 h2 => ?_, fun K hK => ?_, fun j h1 h2 => ?_⟩) ⟨fun z => by omega, fun z => by omega, fun _ _ => ⟨?_, fun z => ?_⟩, fun z => by omega, fun z => by omega, fun z => by omega⟩ (HLD.next G hc hi hp (by omega)))⟩
          all_goals first | (simp (disch := omega) only [setI_at, setI_no, cpy_at, cpy_no]; done) | (simp (disch := omega) only [setI_at, setI_no, cpy_at, cpy_no]; first | decide | rfl | (rw [if_neg (fun y => y yC)]; decide) | (rw [if_pos yC]; decide) | (rw [if_pos (by omega)]; done) | (rw [if_neg (by omega), if_pos (by omega)]; done) | (rw [if_neg (by omega), if_neg (by omega)]; exact hv) | (rw [if_pos (by decide)]; decide)) | (simp (disch := omega) only [setI_at, setI_no, cpy_at, cpy_no] at z; exfalso; first | exact absurd z (by decide) | exact yC z)
        · exfalso; omega
        · exfalso; omega
        · exfalso; omega
      · exfalso; omega
      · exfalso; omega
      · exfalso; omega
      · exfalso; omega
      · exfalso; omega
      · exfalso; omega
      · exfalso; omega
      · exfalso; omega
      · exfalso; omega
      · exfalso; omega
  · by_cases yC : (hm.1 262 (qT g c i)).toInt = 0
    · have h4 : (h.1 (5 + 24 * qT g c i) 4).toInt ≤ 0 := by omega
      by_cases yr : (hm.1 261 (qT g c i)).toInt < (hm.1 225 (qT g c i)).toInt
      · rcases W with ⟨q1, q2, q3, q4, q5, q6, q7, q8, q9, q10, q11, q12, q13, q14, w⟩ | ⟨q1, q2, q3, q4, q5, q6, q7, q8, q9, q10, q11, q12, q13, q14, q15, q16, q17, w⟩ | ⟨q1, q2, q3, q4, q5, q6, q7, q8, q9, q10, q11, q12, q13, q14, q15, q16, q17, w⟩ | ⟨q1, q2, q3, q4, q5, q6, q7, q8, q9, q10, q11, q12, q13, w⟩ | ⟨q1, q2, q3, q4, q5, q6, q7, q8, q9, q10, q11, q12, q13, q14, q15, q16, q17, q18, w⟩ | ⟨q1, q2, q3, q4, q5, q6, q7, q8, q9, q10, q11, q12, q13, q14, q15, q16, q17, q18, w⟩ | ⟨q1, q2, q3, q4, q5, q6, q7, q8, q9, q10, q11, q12, q13, q14, q15, w⟩ | ⟨q1, q2, q3, q4, q5, q6, q7, q8, q9, q10, q11, q12, q13, q14, q15, w⟩ | ⟨q1, q2, q3, q4, q5, q6, q7, q8, q9, q10, q11, q12, q13, q14, q15, w⟩ | ⟨q1, q2, q3, q4, q5, q6, q7, q8, q9, q10, q11, q12, q13, q14, q15, w⟩ | ⟨q1, q2, q3, q4, q5, q6, q7, q8, q9, q10, q11, q12, q13, q14, q15, q16, q17, q18, w⟩ | ⟨q1, q2, q3, q4, q5, q6, q7, q8, q9, q10, q11, q12, q13, q14, q15, q16, q17, q18, w⟩ | ⟨q1, q2, q3, q4, q5, q6, q7, q8, q9, q10, q11, q12, q13, q14, w⟩ | ⟨q1, q2, q3, q4, q5, q6, q7, q8, q9, q10, q11, w⟩ | ⟨q1, q2, q3, q4, q5, q6, q7, q8, q9, q10, q11, q12, q13, q14, w⟩ | ⟨q1, q2, q3, q4, q5, q6, q7, q8, q9, q10, q11, q12, q13, q14, q15, q16, q17, w⟩ | ⟨q1, q2, q3, q4, q5, q6, q7, q8, q9, q10, q11, q12, q13, q14, q15, q16, q17, w⟩ | ⟨q1, q2, q3, q4, q5, q6, q7, q8, q9, q10, q11, q12, q13, w⟩ | ⟨q1, q2, q3, q4, q5, q6, q7, q8, q9, q10, q11, q12, q13, q14, q15, q16, q17, q18, w⟩ | ⟨q1, q2, q3, q4, q5, q6, q7, q8, q9, q10, q11, q12, q13, q14, q15, q16, q17, q18, w⟩ | ⟨q1, q2, q3, q4, q5, q6, q7, q8, q9, q10, q11, q12, q13, q14, q15, w⟩ | ⟨q1, q2, q3, q4, q5, q6, q7, q8, q9, q10, q11, q12, q13, q14, q15, w⟩ | ⟨q1, q2, q3, q4, q5, q6, q7, q8, q9, q10, q11, q12, q13, q14, q15, w⟩ | ⟨q1, q2, q3, q4, q5, q6, q7, q8, q9, q10, q11, q12, q13, q14, q15, w⟩ | ⟨q1, q2, q3, q4, q5, q6, q7, q8, q9, q10, q11, q12, q13, q14, q15, q16, q17, q18, w⟩ | ⟨q1, q2, q3, q4, q5, q6, q7, q8, q9, q10, q11, q12, q13, q14, q15, q16, q17, q18, w⟩ | ⟨q1, q2, q3, q4, q5, q6, q7, q8, q9, q10, q11, q12, q13, q14, w⟩ | ⟨q1, q2, q3, q4, q5, q6, q7, q8, q9, q10, q11, w⟩
        · exfalso; omega
        · exfalso; omega
        · exfalso; omega
        · exfalso; omega
        · exfalso; omega
        · exfalso; omega
        · exfalso; omega
        · exfalso; omega
        · exfalso; omega
        · exfalso; omega
        · exfalso; omega
        · exfalso; omega
        · exfalso; omega
        · exfalso; omega
        · exfalso; omega
        · exfalso; omega
        · exfalso; omega
        · exfalso; omega
        · exfalso; omega
        · exfalso; omega
        · exfalso; omega
        · exfalso; omega
        · exfalso; omega
        · clear q1 q2 q3 q4 q5 q6 q7 q8 q9 q10 q11 q12 q13 q14 q15
          rcases Z with ⟨z1, z2, z3, wz⟩ | ⟨z1, z2, z3, z4, z5, z6, wz⟩ | ⟨z1, z2, z3, z4, z5, z6, wz⟩ | ⟨z1, z2, z3, z4, z5, wz⟩ | ⟨z1, z2, z3, z4, z5, wz⟩ | ⟨z1, z2, z3, z4, z5, wz⟩ | ⟨z1, z2, z3, wz⟩ | ⟨z1, z2, z3, z4, wz⟩ | ⟨z1, z2, z3, z4, z5, wz⟩ | ⟨z1, z2, z3, z4, z5, wz⟩
          · exfalso; omega
          · exfalso; omega
          · exfalso; omega
          · exfalso; omega
          · exfalso; omega
          · exfalso; omega
          · exfalso; omega
          · clear z1 z2 z3 z4 tb I
            obtain ⟨y1, y2, y3⟩ := tri wz
            subst y2
            rw [e1] at w
            refine ⟨_, _, w, e4 y1 y3, RRM.imp Or.inl (RRM.cu G (b' := (st : Int) + 1) (by omega) R (((((KFX.refl _ _ _ _).set _ _ _ (by omega)).set _ _ _ (by omega)).set _ _ _ (by omega)).set _ _ _ (by omega)) (((KFM.refl _ _ _ _).set _ _ _ (by omega)).set _ _ _ (by omega)) ((hT.a 249 _ 0 1 (by decide +kernel) (by decide +kernel) (by first | exact b70 | decide)).a 249 _ 0 1 (by decide +kernel) (by decide +kernel) (by first | exact b70 | decide)) ?_ ?_ setI_at rfl ?_ ?_ ?_ ?_ (fun j => ?_) (fun j => ?_) (tc.fr b69.2 (by omega) ⟨fun j => ⟨?_, ?_, ?_, ?_⟩, fun K j hK h1 h2 => ?_, fun j h1 h2 => ?_, fun K hK => ?_, fun j h1 h2 => ?_⟩) ⟨fun z => by omega, fun z => by omega, fun _ _ => ⟨?_, fun z => ?_⟩, fun z => by omega, fun z => by omega, fun z => by omega⟩ (HLD.next G hc hi hp (by omega)))⟩
            all_goals first | (simp (disch := omega) only [setI_at, setI_no, cpy_at, cpy_no]; done) | (simp (disch := omega) only [setI_at, setI_no, cpy_at, cpy_no]; first | decide | rfl | (rw [if_neg (fun y => y yC)]; decide) | (rw [if_pos yC]; decide) | (rw [if_pos (by omega)]; done) | (rw [if_neg (by omega), if_pos (by omega)]; done) | (rw [if_neg (by omega), if_neg (by omega)]; exact hv) | (rw [if_pos (by decide)]; decide)) | (simp (disch := omega) only [setI_at, setI_no, cpy_at, cpy_no] at z; exfalso; first | exact absurd z (by decide) | exact yC z)
          · exfalso; omega
          · exfalso; omega
        · exfalso; omega
        · exfalso; omega
        · exfalso; omega
        · exfalso; omega
      · by_cases yo : (hm.1 254 (4 * qT g c i)).toInt = c
        · have oc := owc yo
          rcases W with ⟨q1, q2, q3, q4, q5, q6, q7, q8, q9, q10, q11, q12, q13, q14, w⟩ | ⟨q1, q2, q3, q4, q5, q6, q7, q8, q9, q10, q11, q12, q13, q14, q15, q16, q17, w⟩ | ⟨q1, q2, q3, q4, q5, q6, q7, q8, q9, q10, q11, q12, q13, q14, q15, q16, q17, w⟩ | ⟨q1, q2, q3, q4, q5, q6, q7, q8, q9, q10, q11, q12, q13, w⟩ | ⟨q1, q2, q3, q4, q5, q6, q7, q8, q9, q10, q11, q12, q13, q14, q15, q16, q17, q18, w⟩ | ⟨q1, q2, q3, q4, q5, q6, q7, q8, q9, q10, q11, q12, q13, q14, q15, q16, q17, q18, w⟩ | ⟨q1, q2, q3, q4, q5, q6, q7, q8, q9, q10, q11, q12, q13, q14, q15, w⟩ | ⟨q1, q2, q3, q4, q5, q6, q7, q8, q9, q10, q11, q12, q13, q14, q15, w⟩ | ⟨q1, q2, q3, q4, q5, q6, q7, q8, q9, q10, q11, q12, q13, q14, q15, w⟩ | ⟨q1, q2, q3, q4, q5, q6, q7, q8, q9, q10, q11, q12, q13, q14, q15, w⟩ | ⟨q1, q2, q3, q4, q5, q6, q7, q8, q9, q10, q11, q12, q13, q14, q15, q16, q17, q18, w⟩ | ⟨q1, q2, q3, q4, q5, q6, q7, q8, q9, q10, q11, q12, q13, q14, q15, q16, q17, q18, w⟩ | ⟨q1, q2, q3, q4, q5, q6, q7, q8, q9, q10, q11, q12, q13, q14, w⟩ | ⟨q1, q2, q3, q4, q5, q6, q7, q8, q9, q10, q11, w⟩ | ⟨q1, q2, q3, q4, q5, q6, q7, q8, q9, q10, q11, q12, q13, q14, w⟩ | ⟨q1, q2, q3, q4, q5, q6, q7, q8, q9, q10, q11, q12, q13, q14, q15, q16, q17, w⟩ | ⟨q1, q2, q3, q4, q5, q6, q7, q8, q9, q10, q11, q12, q13, q14, q15, q16, q17, w⟩ | ⟨q1, q2, q3, q4, q5, q6, q7, q8, q9, q10, q11, q12, q13, w⟩ | ⟨q1, q2, q3, q4, q5, q6, q7, q8, q9, q10, q11, q12, q13, q14, q15, q16, q17, q18, w⟩ | ⟨q1, q2, q3, q4, q5, q6, q7, q8, q9, q10, q11, q12, q13, q14, q15, q16, q17, q18, w⟩ | ⟨q1, q2, q3, q4, q5, q6, q7, q8, q9, q10, q11, q12, q13, q14, q15, w⟩ | ⟨q1, q2, q3, q4, q5, q6, q7, q8, q9, q10, q11, q12, q13, q14, q15, w⟩ | ⟨q1, q2, q3, q4, q5, q6, q7, q8, q9, q10, q11, q12, q13, q14, q15, w⟩ | ⟨q1, q2, q3, q4, q5, q6, q7, q8, q9, q10, q11, q12, q13, q14, q15, w⟩ | ⟨q1, q2, q3, q4, q5, q6, q7, q8, q9, q10, q11, q12, q13, q14, q15, q16, q17, q18, w⟩ | ⟨q1, q2, q3, q4, q5, q6, q7, q8, q9, q10, q11, q12, q13, q14, q15, q16, q17, q18, w⟩ | ⟨q1, q2, q3, q4, q5, q6, q7, q8, q9, q10, q11, q12, q13, q14, w⟩ | ⟨q1, q2, q3, q4, q5, q6, q7, q8, q9, q10, q11, w⟩
          · exfalso; omega
          · exfalso; omega
          · exfalso; omega
          · exfalso; omega
          · exfalso; omega
          · exfalso; omega
          · exfalso; omega
          · exfalso; omega
          · exfalso; omega
          · exfalso; omega
          · exfalso; omega
          · exfalso; omega
          · exfalso; omega
          · exfalso; omega
          · exfalso; omega
          · exfalso; omega
          · exfalso; omega
          · exfalso; omega
          · exfalso; omega
          · exfalso; omega
          · exfalso; omega
          · exfalso; omega
          · exfalso; omega
          · exfalso; omega
          · exfalso; omega
          · clear q1 q2 q3 q4 q5 q6 q7 q8 q9 q10 q11 q12 q13 q14 q15 q16 q17 q18
            rcases Z with ⟨z1, z2, z3, wz⟩ | ⟨z1, z2, z3, z4, z5, z6, wz⟩ | ⟨z1, z2, z3, z4, z5, z6, wz⟩ | ⟨z1, z2, z3, z4, z5, wz⟩ | ⟨z1, z2, z3, z4, z5, wz⟩ | ⟨z1, z2, z3, z4, z5, wz⟩ | ⟨z1, z2, z3, wz⟩ | ⟨z1, z2, z3, z4, wz⟩ | ⟨z1, z2, z3, z4, z5, wz⟩ | ⟨z1, z2, z3, z4, z5, wz⟩
            · exfalso; omega
            · exfalso; omega
            · exfalso; omega
            · exfalso; omega
            · exfalso; omega
            · exfalso; omega
            · exfalso; omega
            · exfalso; omega
            · exfalso; omega
            · clear z1 z2 z3 z4 z5 tb I
              obtain ⟨y1, y2, y3⟩ := tri wz
              subst y2
              refine ⟨_, _, w, e4 y1 y3, ?_⟩
              have Q := RRM.wait (HN := fl_setI (fl_setI (fl_setI h (152 + 12 * c + i) 14 (Int32.ofInt 0)) (152 + 12 * c + i) 13 (Int32.ofInt 0)) (152 + 12 * c + i) 13 (g.1 230 (8 * c + i))) (MN := fl_setI (fl_setI hm 249 c (Int32.ofInt 0)) 249 c (hm.1 262 (qT g c i))) (v := (Int32.ofInt (-1))) G R hp (Or.inl hk) (fun r j z => ?_) rfl (fun K j z => ?_) rfl ((hT.a 249 _ 0 1 (by decide +kernel) (by decide +kernel) (by decide)).a 249 _ 0 1 (by decide +kernel) (by decide +kernel) b70) (Or.inr ⟨rfl, oc, rfl⟩)
              · exact RRM.imp (fun z => Or.inr (Or.inl z)) Q
              · simp (disch := omega) only [setI_at, setI_no]
              · simp (disch := omega) only [setI_at, setI_no]
          · exfalso; omega
          · exfalso; omega
        · rcases W with ⟨q1, q2, q3, q4, q5, q6, q7, q8, q9, q10, q11, q12, q13, q14, w⟩ | ⟨q1, q2, q3, q4, q5, q6, q7, q8, q9, q10, q11, q12, q13, q14, q15, q16, q17, w⟩ | ⟨q1, q2, q3, q4, q5, q6, q7, q8, q9, q10, q11, q12, q13, q14, q15, q16, q17, w⟩ | ⟨q1, q2, q3, q4, q5, q6, q7, q8, q9, q10, q11, q12, q13, w⟩ | ⟨q1, q2, q3, q4, q5, q6, q7, q8, q9, q10, q11, q12, q13, q14, q15, q16, q17, q18, w⟩ | ⟨q1, q2, q3, q4, q5, q6, q7, q8, q9, q10, q11, q12, q13, q14, q15, q16, q17, q18, w⟩ | ⟨q1, q2, q3, q4, q5, q6, q7, q8, q9, q10, q11, q12, q13, q14, q15, w⟩ | ⟨q1, q2, q3, q4, q5, q6, q7, q8, q9, q10, q11, q12, q13, q14, q15, w⟩ | ⟨q1, q2, q3, q4, q5, q6, q7, q8, q9, q10, q11, q12, q13, q14, q15, w⟩ | ⟨q1, q2, q3, q4, q5, q6, q7, q8, q9, q10, q11, q12, q13, q14, q15, w⟩ | ⟨q1, q2, q3, q4, q5, q6, q7, q8, q9, q10, q11, q12, q13, q14, q15, q16, q17, q18, w⟩ | ⟨q1, q2, q3, q4, q5, q6, q7, q8, q9, q10, q11, q12, q13, q14, q15, q16, q17, q18, w⟩ | ⟨q1, q2, q3, q4, q5, q6, q7, q8, q9, q10, q11, q12, q13, q14, w⟩ | ⟨q1, q2, q3, q4, q5, q6, q7, q8, q9, q10, q11, w⟩ | ⟨q1, q2, q3, q4, q5, q6, q7, q8, q9, q10, q11, q12, q13, q14, w⟩ | ⟨q1, q2, q3, q4, q5, q6, q7, q8, q9, q10, q11, q12, q13, q14, q15, q16, q17, w⟩ | ⟨q1, q2, q3, q4, q5, q6, q7, q8, q9, q10, q11, q12, q13, q14, q15, q16, q17, w⟩ | ⟨q1, q2, q3, q4, q5, q6, q7, q8, q9, q10, q11, q12, q13, w⟩ | ⟨q1, q2, q3, q4, q5, q6, q7, q8, q9, q10, q11, q12, q13, q14, q15, q16, q17, q18, w⟩ | ⟨q1, q2, q3, q4, q5, q6, q7, q8, q9, q10, q11, q12, q13, q14, q15, q16, q17, q18, w⟩ | ⟨q1, q2, q3, q4, q5, q6, q7, q8, q9, q10, q11, q12, q13, q14, q15, w⟩ | ⟨q1, q2, q3, q4, q5, q6, q7, q8, q9, q10, q11, q12, q13, q14, q15, w⟩ | ⟨q1, q2, q3, q4, q5, q6, q7, q8, q9, q10, q11, q12, q13, q14, q15, w⟩ | ⟨q1, q2, q3, q4, q5, q6, q7, q8, q9, q10, q11, q12, q13, q14, q15, w⟩ | ⟨q1, q2, q3, q4, q5, q6, q7, q8, q9, q10, q11, q12, q13, q14, q15, q16, q17, q18, w⟩ | ⟨q1, q2, q3, q4, q5, q6, q7, q8, q9, q10, q11, q12, q13, q14, q15, q16, q17, q18, w⟩ | ⟨q1, q2, q3, q4, q5, q6, q7, q8, q9, q10, q11, q12, q13, q14, w⟩ | ⟨q1, q2, q3, q4, q5, q6, q7, q8, q9, q10, q11, w⟩
          · exfalso; omega
          · exfalso; omega
          · exfalso; omega
          · exfalso; omega
          · exfalso; omega
          · exfalso; omega
          · exfalso; omega
          · exfalso; omega
          · exfalso; omega
          · exfalso; omega
          · exfalso; omega
          · exfalso; omega
          · exfalso; omega
          · exfalso; omega
          · exfalso; omega
          · exfalso; omega
          · exfalso; omega
          · exfalso; omega
          · exfalso; omega
          · exfalso; omega
          · exfalso; omega
          · exfalso; omega
          · exfalso; omega
          · exfalso; omega
          · clear q1 q2 q3 q4 q5 q6 q7 q8 q9 q10 q11 q12 q13 q14 q15 q16 q17 q18
            rcases Z with ⟨z1, z2, z3, wz⟩ | ⟨z1, z2, z3, z4, z5, z6, wz⟩ | ⟨z1, z2, z3, z4, z5, z6, wz⟩ | ⟨z1, z2, z3, z4, z5, wz⟩ | ⟨z1, z2, z3, z4, z5, wz⟩ | ⟨z1, z2, z3, z4, z5, wz⟩ | ⟨z1, z2, z3, wz⟩ | ⟨z1, z2, z3, z4, wz⟩ | ⟨z1, z2, z3, z4, z5, wz⟩ | ⟨z1, z2, z3, z4, z5, wz⟩
            · exfalso; omega
            · exfalso; omega
            · exfalso; omega
            · exfalso; omega
            · exfalso; omega
            · exfalso; omega
            · exfalso; omega
            · exfalso; omega
            · clear z1 z2 z3 z4 z5 tb I
              obtain ⟨y1, y2, y3⟩ := tri wz
              subst y2
              refine ⟨_, _, w, e4 y1 y3, ?_⟩
              have Q := RRM.wait (HN := fl_setI (fl_setI (fl_setI h (152 + 12 * c + i) 14 (Int32.ofInt 0)) (152 + 12 * c + i) 13 (Int32.ofInt 0)) (152 + 12 * c + i) 13 (g.1 230 (8 * c + i))) (MN := fl_setI (fl_setI hm 249 c (Int32.ofInt 0)) 249 c (hm.1 262 (qT g c i))) (v := (hm.1 254 (4 * qT g c i))) G R hp (Or.inl hk) (fun r j z => ?_) rfl (fun K j z => ?_) rfl ((hT.a 249 _ 0 1 (by decide +kernel) (by decide +kernel) (by decide)).a 249 _ 0 1 (by decide +kernel) (by decide +kernel) b70) (Or.inl ⟨rfl, rfl⟩)
              · exact RRM.imp (fun z => Or.inr (Or.inl z)) Q
              · simp (disch := omega) only [setI_at, setI_no]
              · simp (disch := omega) only [setI_at, setI_no]
            · exfalso; omega
          · exfalso; omega
          · exfalso; omega
          · exfalso; omega
    · have h4 : (h.1 (5 + 24 * qT g c i) 4).toInt > 0 := by omega
      rcases W with ⟨q1, q2, q3, q4, q5, q6, q7, q8, q9, q10, q11, q12, q13, q14, w⟩ | ⟨q1, q2, q3, q4, q5, q6, q7, q8, q9, q10, q11, q12, q13, q14, q15, q16, q17, w⟩ | ⟨q1, q2, q3, q4, q5, q6, q7, q8, q9, q10, q11, q12, q13, q14, q15, q16, q17, w⟩ | ⟨q1, q2, q3, q4, q5, q6, q7, q8, q9, q10, q11, q12, q13, w⟩ | ⟨q1, q2, q3, q4, q5, q6, q7, q8, q9, q10, q11, q12, q13, q14, q15, q16, q17, q18, w⟩ | ⟨q1, q2, q3, q4, q5, q6, q7, q8, q9, q10, q11, q12, q13, q14, q15, q16, q17, q18, w⟩ | ⟨q1, q2, q3, q4, q5, q6, q7, q8, q9, q10, q11, q12, q13, q14, q15, w⟩ | ⟨q1, q2, q3, q4, q5, q6, q7, q8, q9, q10, q11, q12, q13, q14, q15, w⟩ | ⟨q1, q2, q3, q4, q5, q6, q7, q8, q9, q10, q11, q12, q13, q14, q15, w⟩ | ⟨q1, q2, q3, q4, q5, q6, q7, q8, q9, q10, q11, q12, q13, q14, q15, w⟩ | ⟨q1, q2, q3, q4, q5, q6, q7, q8, q9, q10, q11, q12, q13, q14, q15, q16, q17, q18, w⟩ | ⟨q1, q2, q3, q4, q5, q6, q7, q8, q9, q10, q11, q12, q13, q14, q15, q16, q17, q18, w⟩ | ⟨q1, q2, q3, q4, q5, q6, q7, q8, q9, q10, q11, q12, q13, q14, w⟩ | ⟨q1, q2, q3, q4, q5, q6, q7, q8, q9, q10, q11, w⟩ | ⟨q1, q2, q3, q4, q5, q6, q7, q8, q9, q10, q11, q12, q13, q14, w⟩ | ⟨q1, q2, q3, q4, q5, q6, q7, q8, q9, q10, q11, q12, q13, q14, q15, q16, q17, w⟩ | ⟨q1, q2, q3, q4, q5, q6, q7, q8, q9, q10, q11, q12, q13, q14, q15, q16, q17, w⟩ | ⟨q1, q2, q3, q4, q5, q6, q7, q8, q9, q10, q11, q12, q13, w⟩ | ⟨q1, q2, q3, q4, q5, q6, q7, q8, q9, q10, q11, q12, q13, q14, q15, q16, q17, q18, w⟩ | ⟨q1, q2, q3, q4, q5, q6, q7, q8, q9, q10, q11, q12, q13, q14, q15, q16, q17, q18, w⟩ | ⟨q1, q2, q3, q4, q5, q6, q7, q8, q9, q10, q11, q12, q13, q14, q15, w⟩ | ⟨q1, q2, q3, q4, q5, q6, q7, q8, q9, q10, q11, q12, q13, q14, q15, w⟩ | ⟨q1, q2, q3, q4, q5, q6, q7, q8, q9, q10, q11, q12, q13, q14, q15, w⟩ | ⟨q1, q2, q3, q4, q5, q6, q7, q8, q9, q10, q11, q12, q13, q14, q15, w⟩ | ⟨q1, q2, q3, q4, q5, q6, q7, q8, q9, q10, q11, q12, q13, q14, q15, q16, q17, q18, w⟩ | ⟨q1, q2, q3, q4, q5, q6, q7, q8, q9, q10, q11, q12, q13, q14, q15, q16, q17, q18, w⟩ | ⟨q1, q2, q3, q4, q5, q6, q7, q8, q9, q10, q11, q12, q13, q14, w⟩ | ⟨q1, q2, q3, q4, q5, q6, q7, q8, q9, q10, q11, w⟩
      · exfalso; omega
      · exfalso; omega
      · exfalso; omega
      · exfalso; omega
      · exfalso; omega
      · exfalso; omega
      · exfalso; omega
      · exfalso; omega
      · exfalso; omega
      · exfalso; omega
      · exfalso; omega
      · exfalso; omega
      · exfalso; omega
      · exfalso; omega
      · exfalso; omega
      · exfalso; omega
      · exfalso; omega
      · exfalso; omega
      · exfalso; omega
      · exfalso; omega
      · exfalso; omega
      · exfalso; omega
      · exfalso; omega
      · exfalso; omega
      · exfalso; omega
      · exfalso; omega
      · clear q1 q2 q3 q4 q5 q6 q7 q8 q9 q10 q11 q12 q13 q14
        rcases Z with ⟨z1, z2, z3, wz⟩ | ⟨z1, z2, z3, z4, z5, z6, wz⟩ | ⟨z1, z2, z3, z4, z5, z6, wz⟩ | ⟨z1, z2, z3, z4, z5, wz⟩ | ⟨z1, z2, z3, z4, z5, wz⟩ | ⟨z1, z2, z3, z4, z5, wz⟩ | ⟨z1, z2, z3, wz⟩ | ⟨z1, z2, z3, z4, wz⟩ | ⟨z1, z2, z3, z4, z5, wz⟩ | ⟨z1, z2, z3, z4, z5, wz⟩
        · exfalso; omega
        · exfalso; omega
        · exfalso; omega
        · exfalso; omega
        · exfalso; omega
        · exfalso; omega
        · clear z1 z2 z3 tb I
          obtain ⟨y1, y2, y3⟩ := tri wz
          subst y2
          rw [e1] at w
          refine ⟨_, _, w, e4 y1 y3, RRM.imp Or.inl (RRM.cu G (b' := (st : Int) + 1) (by omega) R (((((KFX.refl _ _ _ _).set _ _ _ (by omega)).set _ _ _ (by omega)).set _ _ _ (by omega)).set _ _ _ (by omega)) (((KFM.refl _ _ _ _).set _ _ _ (by omega)).set _ _ _ (by omega)) ((hT.a 249 _ 0 1 (by decide +kernel) (by decide +kernel) (by first | exact b70 | decide)).a 249 _ 0 1 (by decide +kernel) (by decide +kernel) (by first | exact b70 | decide)) ?_ ?_ setI_at rfl ?_ ?_ ?_ ?_ (fun j => ?_) (fun j => ?_) (tc.fr b69.2 (by omega) ⟨fun j => ⟨?_, ?_, ?_, ?_⟩, fun K j hK h1 h2 => ?_, fun j h1 h2 => ?_, fun K hK => ?_, fun j h1 h2 => ?_⟩) ⟨fun z => by omega, fun z => by omega, fun _ _ => ⟨?_, fun z => ?_⟩, fun z => by omega, fun z => by omega, fun z => by omega⟩ (HLD.next G hc hi hp (by omega)))⟩
          all_goals first | (simp (disch := omega) only [setI_at, setI_no, cpy_at, cpy_no]; done) | (simp (disch := omega) only [setI_at, setI_no, cpy_at, cpy_no]; first | decide | rfl | (rw [if_neg (fun y => y yC)]; decide) | (rw [if_pos yC]; decide) | (rw [if_pos (by omega)]; done) | (rw [if_neg (by omega), if_pos (by omega)]; done) | (rw [if_neg (by omega), if_neg (by omega)]; exact hv) | (rw [if_pos (by decide)]; decide)) | (simp (disch := omega) only [setI_at, setI_no, cpy_at, cpy_no] at z; exfalso; first | exact absurd z (by decide) | exact yC z)
        · exfalso; omega
        · exfalso; omega
        · exfalso; omega
      · exfalso; omega
  · by_cases n0 : n = 0
    · by_cases yC : (hm.1 262 (qT g c i)).toInt = 0
      · have h4 : (h.1 (5 + 24 * qT g c i) 4).toInt ≤ 0 := by omega
        by_cases yo : (hm.1 254 (4 * qT g c i)).toInt = c
        · have oc := owc yo
          rcases W with ⟨q1, q2, q3, q4, q5, q6, q7, q8, q9, q10, q11, q12, q13, q14, w⟩ | ⟨q1, q2, q3, q4, q5, q6, q7, q8, q9, q10, q11, q12, q13, q14, q15, q16, q17, w⟩ | ⟨q1, q2, q3, q4, q5, q6, q7, q8, q9, q10, q11, q12, q13, q14, q15, q16, q17, w⟩ | ⟨q1, q2, q3, q4, q5, q6, q7, q8, q9, q10, q11, q12, q13, w⟩ | ⟨q1, q2, q3, q4, q5, q6, q7, q8, q9, q10, q11, q12, q13, q14, q15, q16, q17, q18, w⟩ | ⟨q1, q2, q3, q4, q5, q6, q7, q8, q9, q10, q11, q12, q13, q14, q15, q16, q17, q18, w⟩ | ⟨q1, q2, q3, q4, q5, q6, q7, q8, q9, q10, q11, q12, q13, q14, q15, w⟩ | ⟨q1, q2, q3, q4, q5, q6, q7, q8, q9, q10, q11, q12, q13, q14, q15, w⟩ | ⟨q1, q2, q3, q4, q5, q6, q7, q8, q9, q10, q11, q12, q13, q14, q15, w⟩ | ⟨q1, q2, q3, q4, q5, q6, q7, q8, q9, q10, q11, q12, q13, q14, q15, w⟩ | ⟨q1, q2, q3, q4, q5, q6, q7, q8, q9, q10, q11, q12, q13, q14, q15, q16, q17, q18, w⟩ | ⟨q1, q2, q3, q4, q5, q6, q7, q8, q9, q10, q11, q12, q13, q14, q15, q16, q17, q18, w⟩ | ⟨q1, q2, q3, q4, q5, q6, q7, q8, q9, q10, q11, q12, q13, q14, w⟩ | ⟨q1, q2, q3, q4, q5, q6, q7, q8, q9, q10, q11, w⟩ | ⟨q1, q2, q3, q4, q5, q6, q7, q8, q9, q10, q11, q12, q13, q14, w⟩ | ⟨q1, q2, q3, q4, q5, q6, q7, q8, q9, q10, q11, q12, q13, q14, q15, q16, q17, w⟩ | ⟨q1, q2, q3, q4, q5, q6, q7, q8, q9, q10, q11, q12, q13, q14, q15, q16, q17, w⟩ | ⟨q1, q2, q3, q4, q5, q6, q7, q8, q9, q10, q11, q12, q13, w⟩ | ⟨q1, q2, q3, q4, q5, q6, q7, q8, q9, q10, q11, q12, q13, q14, q15, q16, q17, q18, w⟩ | ⟨q1, q2, q3, q4, q5, q6, q7, q8, q9, q10, q11, q12, q13, q14, q15, q16, q17, q18, w⟩ | ⟨q1, q2, q3, q4, q5, q6, q7, q8, q9, q10, q11, q12, q13, q14, q15, w⟩ | ⟨q1, q2, q3, q4, q5, q6, q7, q8, q9, q10, q11, q12, q13, q14, q15, w⟩ | ⟨q1, q2, q3, q4, q5, q6, q7, q8, q9, q10, q11, q12, q13, q14, q15, w⟩ | ⟨q1, q2, q3, q4, q5, q6, q7, q8, q9, q10, q11, q12, q13, q14, q15, w⟩ | ⟨q1, q2, q3, q4, q5, q6, q7, q8, q9, q10, q11, q12, q13, q14, q15, q16, q17, q18, w⟩ | ⟨q1, q2, q3, q4, q5, q6, q7, q8, q9, q10, q11, q12, q13, q14, q15, q16, q17, q18, w⟩ | ⟨q1, q2, q3, q4, q5, q6, q7, q8, q9, q10, q11, q12, q13, q14, w⟩ | ⟨q1, q2, q3, q4, q5, q6, q7, q8, q9, q10, q11, w⟩
          · exfalso; omega
          · exfalso; omega
          · exfalso; omega
          · exfalso; omega
          · exfalso; omega
          · exfalso; omega
          · exfalso; omega
          · exfalso; omega
          · exfalso; omega
          · exfalso; omega
          · exfalso; omega
          · exfalso; omega
          · exfalso; omega
          · exfalso; omega
          · exfalso; omega
          · exfalso; omega
          · exfalso; omega
          · exfalso; omega
          · exfalso; omega
          · clear q1 q2 q3 q4 q5 q6 q7 q8 q9 q10 q11 q12 q13 q14 q15 q16 q17 q18
            rcases Z with ⟨z1, z2, z3, wz⟩ | ⟨z1, z2, z3, z4, z5, z6, wz⟩ | ⟨z1, z2, z3, z4, z5, z6, wz⟩ | ⟨z1, z2, z3, z4, z5, wz⟩ | ⟨z1, z2, z3, z4, z5, wz⟩ | ⟨z1, z2, z3, z4, z5, wz⟩ | ⟨z1, z2, z3, wz⟩ | ⟨z1, z2, z3, z4, wz⟩ | ⟨z1, z2, z3, z4, z5, wz⟩ | ⟨z1, z2, z3, z4, z5, wz⟩
            · exfalso; omega
            · exfalso; omega
            · clear z1 z2 z3 z4 z5 z6 tb I
              obtain ⟨y1, y2, y3⟩ := tri wz
              subst y2
              refine ⟨_, _, w, e4 y1 y3, ?_⟩
              have Q := RRM.wait (HN := fl_setI (fl_setI h (152 + 12 * c + i) 14 (Int32.ofInt 0)) (152 + 12 * c + i) 13 (Int32.ofInt 0)) (MN := fl_setI hm 249 c (Int32.ofInt 0)) (v := (Int32.ofInt (-1))) G R hp (Or.inl hk) (fun r j z => ?_) rfl (fun K j z => ?_) rfl (hT.a 249 _ 0 1 (by decide +kernel) (by decide +kernel) (by decide)) (Or.inr ⟨rfl, oc, rfl⟩)
              · exact RRM.imp (fun z => Or.inr (Or.inl z)) Q
              · simp (disch := omega) only [setI_at, setI_no]
              · simp (disch := omega) only [setI_at, setI_no]
            · exfalso; omega
            · exfalso; omega
            · exfalso; omega
            · exfalso; omega
            · exfalso; omega
            · exfalso; omega
            · exfalso; omega
          · exfalso; omega
          · exfalso; omega
          · exfalso; omega
          · exfalso; omega
          · exfalso; omega
          · exfalso; omega
          · exfalso; omega
          · exfalso; omega
        · rcases W with ⟨q1, q2, q3, q4, q5, q6, q7, q8, q9, q10, q11, q12, q13, q14, w⟩ | ⟨q1, q2, q3, q4, q5, q6, q7, q8, q9, q10, q11, q12, q13, q14, q15, q16, q17, w⟩ | ⟨q1, q2, q3, q4, q5, q6, q7, q8, q9, q10, q11, q12, q13, q14, q15, q16, q17, w⟩ | ⟨q1, q2, q3, q4, q5, q6, q7, q8, q9, q10, q11, q12, q13, w⟩ | ⟨q1, q2, q3, q4, q5, q6, q7, q8, q9, q10, q11, q12, q13, q14, q15, q16, q17, q18, w⟩ | ⟨q1, q2, q3, q4, q5, q6, q7, q8, q9, q10, q11, q12, q13, q14, q15, q16, q17, q18, w⟩ | ⟨q1, q2, q3, q4, q5, q6, q7, q8, q9, q10, q11, q12, q13, q14, q15, w⟩ | ⟨q1, q2, q3, q4, q5, q6, q7, q8, q9, q10, q11, q12, q13, q14, q15, w⟩ | ⟨q1, q2, q3, q4, q5, q6, q7, q8, q9, q10, q11, q12, q13, q14, q15, w⟩ | ⟨q1, q2, q3, q4, q5, q6, q7, q8, q9, q10, q11, q12, q13, q14, q15, w⟩ | ⟨q1, q2, q3, q4, q5, q6, q7, q8, q9, q10, q11, q12, q13, q14, q15, q16, q17, q18, w⟩ | ⟨q1, q2, q3, q4, q5, q6, q7, q8, q9, q10, q11, q12, q13, q14, q15, q16, q17, q18, w⟩ | ⟨q1, q2, q3, q4, q5, q6, q7, q8, q9, q10, q11, q12, q13, q14, w⟩ | ⟨q1, q2, q3, q4, q5, q6, q7, q8, q9, q10, q11, w⟩ | ⟨q1, q2, q3, q4, q5, q6, q7, q8, q9, q10, q11, q12, q13, q14, w⟩ | ⟨q1, q2, q3, q4, q5, q6, q7, q8, q9, q10, q11, q12, q13, q14, q15, q16, q17, w⟩ | ⟨q1, q2, q3, q4, q5, q6, q7, q8, q9, q10, q11, q12, q13, q14, q15, q16, q17, w⟩ | ⟨q1, q2, q3, q4, q5, q6, q7, q8, q9, q10, q11, q12, q13, w⟩ | ⟨q1, q2, q3, q4, q5, q6, q7, q8, q9, q10, q11, q12, q13, q14, q15, q16, q17, q18, w⟩ | ⟨q1, q2, q3, q4, q5, q6, q7, q8, q9, q10, q11, q12, q13, q14, q15, q16, q17, q18, w⟩ | ⟨q1, q2, q3, q4, q5, q6, q7, q8, q9, q10, q11, q12, q13, q14, q15, w⟩ | ⟨q1, q2, q3, q4, q5, q6, q7, q8, q9, q10, q11, q12, q13, q14, q15, w⟩ | ⟨q1, q2, q3, q4, q5, q6, q7, q8, q9, q10, q11, q12, q13, q14, q15, w⟩ | ⟨q1, q2, q3, q4, q5, q6, q7, q8, q9, q10, q11, q12, q13, q14, q15, w⟩ | ⟨q1, q2, q3, q4, q5, q6, q7, q8, q9, q10, q11, q12, q13, q14, q15, q16, q17, q18, w⟩ | ⟨q1, q2, q3, q4, q5, q6, q7, q8, q9, q10, q11, q12, q13, q14, q15, q16, q17, q18, w⟩ | ⟨q1, q2, q3, q4, q5, q6, q7, q8, q9, q10, q11, q12, q13, q14, w⟩ | ⟨q1, q2, q3, q4, q5, q6, q7, q8, q9, q10, q11, w⟩
          · exfalso; omega
          · exfalso; omega
          · exfalso; omega
          · exfalso; omega
          · exfalso; omega
          · exfalso; omega
          · exfalso; omega
          · exfalso; omega
          · exfalso; omega
          · exfalso; omega
          · exfalso; omega
          · exfalso; omega
          · exfalso; omega
          · exfalso; omega
          · exfalso; omega
          · exfalso; omega
          · exfalso; omega
          · exfalso; omega
          · clear q1 q2 q3 q4 q5 q6 q7 q8 q9 q10 q11 q12 q13 q14 q15 q16 q17 q18
            rcases Z with ⟨z1, z2, z3, wz⟩ | ⟨z1, z2, z3, z4, z5, z6, wz⟩ | ⟨z1, z2, z3, z4, z5, z6, wz⟩ | ⟨z1, z2, z3, z4, z5, wz⟩ | ⟨z1, z2, z3, z4, z5, wz⟩ | ⟨z1, z2, z3, z4, z5, wz⟩ | ⟨z1, z2, z3, wz⟩ | ⟨z1, z2, z3, z4, wz⟩ | ⟨z1, z2, z3, z4, z5, wz⟩ | ⟨z1, z2, z3, z4, z5, wz⟩
            · exfalso; omega
            · clear z1 z2 z3 z4 z5 z6 tb I
              obtain ⟨y1, y2, y3⟩ := tri wz
              subst y2
              refine ⟨_, _, w, e4 y1 y3, ?_⟩
              have Q := RRM.wait (HN := fl_setI (fl_setI h (152 + 12 * c + i) 14 (Int32.ofInt 0)) (152 + 12 * c + i) 13 (Int32.ofInt 0)) (MN := fl_setI hm 249 c (Int32.ofInt 0)) (v := (hm.1 254 (4 * qT g c i))) G R hp (Or.inl hk) (fun r j z => ?_) rfl (fun K j z => ?_) rfl (hT.a 249 _ 0 1 (by decide +kernel) (by decide +kernel) (by decide)) (Or.inl ⟨rfl, rfl⟩)
              · exact RRM.imp (fun z => Or.inr (Or.inl z)) Q
              · simp (disch := omega) only [setI_at, setI_no]
              · simp (disch := omega) only [setI_at, setI_no]
            · exfalso; omega
            · exfalso; omega
            · exfalso; omega
            · exfalso; omega
            · exfalso; omega
            · exfalso; omega
            · exfalso; omega
            · exfalso; omega
          · exfalso; omega
          · exfalso; omega
          · exfalso; omega
          · exfalso; omega
          · exfalso; omega
          · exfalso; omega
          · exfalso; omega
          · exfalso; omega
          · exfalso; omega
      · have h4 : (h.1 (5 + 24 * qT g c i) 4).toInt > 0 := by omega
        rcases W with ⟨q1, q2, q3, q4, q5, q6, q7, q8, q9, q10, q11, q12, q13, q14, w⟩ | ⟨q1, q2, q3, q4, q5, q6, q7, q8, q9, q10, q11, q12, q13, q14, q15, q16, q17, w⟩ | ⟨q1, q2, q3, q4, q5, q6, q7, q8, q9, q10, q11, q12, q13, q14, q15, q16, q17, w⟩ | ⟨q1, q2, q3, q4, q5, q6, q7, q8, q9, q10, q11, q12, q13, w⟩ | ⟨q1, q2, q3, q4, q5, q6, q7, q8, q9, q10, q11, q12, q13, q14, q15, q16, q17, q18, w⟩ | ⟨q1, q2, q3, q4, q5, q6, q7, q8, q9, q10, q11, q12, q13, q14, q15, q16, q17, q18, w⟩ | ⟨q1, q2, q3, q4, q5, q6, q7, q8, q9, q10, q11, q12, q13, q14, q15, w⟩ | ⟨q1, q2, q3, q4, q5, q6, q7, q8, q9, q10, q11, q12, q13, q14, q15, w⟩ | ⟨q1, q2, q3, q4, q5, q6, q7, q8, q9, q10, q11, q12, q13, q14, q15, w⟩ | ⟨q1, q2, q3, q4, q5, q6, q7, q8, q9, q10, q11, q12, q13, q14, q15, w⟩ | ⟨q1, q2, q3, q4, q5, q6, q7, q8, q9, q10, q11, q12, q13, q14, q15, q16, q17, q18, w⟩ | ⟨q1, q2, q3, q4, q5, q6, q7, q8, q9, q10, q11, q12, q13, q14, q15, q16, q17, q18, w⟩ | ⟨q1, q2, q3, q4, q5, q6, q7, q8, q9, q10, q11, q12, q13, q14, w⟩ | ⟨q1, q2, q3, q4, q5, q6, q7, q8, q9, q10, q11, w⟩ | ⟨q1, q2, q3, q4, q5, q6, q7, q8, q9, q10, q11, q12, q13, q14, w⟩ | ⟨q1, q2, q3, q4, q5, q6, q7, q8, q9, q10, q11, q12, q13, q14, q15, q16, q17, w⟩ | ⟨q1, q2, q3, q4, q5, q6, q7, q8, q9, q10, q11, q12, q13, q14, q15, q16, q17, w⟩ | ⟨q1, q2, q3, q4, q5, q6, q7, q8, q9, q10, q11, q12, q13, w⟩ | ⟨q1, q2, q3, q4, q5, q6, q7, q8, q9, q10, q11, q12, q13, q14, q15, q16, q17, q18, w⟩ | ⟨q1, q2, q3, q4, q5, q6, q7, q8, q9, q10, q11, q12, q13, q14, q15, q16, q17, q18, w⟩ | ⟨q1, q2, q3, q4, q5, q6, q7, q8, q9, q10, q11, q12, q13, q14, q15, w⟩ | ⟨q1, q2, q3, q4, q5, q6, q7, q8, q9, q10, q11, q12, q13, q14, q15, w⟩ | ⟨q1, q2, q3, q4, q5, q6, q7, q8, q9, q10, q11, q12, q13, q14, q15, w⟩ | ⟨q1, q2, q3, q4, q5, q6, q7, q8, q9, q10, q11, q12, q13, q14, q15, w⟩ | ⟨q1, q2, q3, q4, q5, q6, q7, q8, q9, q10, q11, q12, q13, q14, q15, q16, q17, q18, w⟩ | ⟨q1, q2, q3, q4, q5, q6, q7, q8, q9, q10, q11, q12, q13, q14, q15, q16, q17, q18, w⟩ | ⟨q1, q2, q3, q4, q5, q6, q7, q8, q9, q10, q11, q12, q13, q14, w⟩ | ⟨q1, q2, q3, q4, q5, q6, q7, q8, q9, q10, q11, w⟩
        · exfalso; omega
        · exfalso; omega
        · exfalso; omega
        · exfalso; omega
        · exfalso; omega
        · exfalso; omega
        · exfalso; omega
        · exfalso; omega
        · exfalso; omega
        · exfalso; omega
        · exfalso; omega
        · exfalso; omega
        · exfalso; omega
        · exfalso; omega
        · exfalso; omega
        · exfalso; omega
        · exfalso; omega
        · exfalso; omega
        · exfalso; omega
        · exfalso; omega
        · clear q1 q2 q3 q4 q5 q6 q7 q8 q9 q10 q11 q12 q13 q14 q15
          rcases Z with ⟨z1, z2, z3, wz⟩ | ⟨z1, z2, z3, z4, z5, z6, wz⟩ | ⟨z1, z2, z3, z4, z5, z6, wz⟩ | ⟨z1, z2, z3, z4, z5, wz⟩ | ⟨z1, z2, z3, z4, z5, wz⟩ | ⟨z1, z2, z3, z4, z5, wz⟩ | ⟨z1, z2, z3, wz⟩ | ⟨z1, z2, z3, z4, wz⟩ | ⟨z1, z2, z3, z4, z5, wz⟩ | ⟨z1, z2, z3, z4, z5, wz⟩
          · exfalso; omega
          · exfalso; omega
          · exfalso; omega
          · clear z1 z2 z3 z4 z5 tb I
            obtain ⟨y1, y2, y3⟩ := tri wz
            subst y2
            rw [e1] at w
            refine ⟨_, _, w, e4 y1 y3, RRM.imp Or.inl (RRM.cu G (b' := (st : Int) + 1) (by omega) R (((((KFX.refl _ _ _ _).set _ _ _ (by omega)).set _ _ _ (by omega)).set _ _ _ (by omega)).set _ _ _ (by omega)) (((KFM.refl _ _ _ _).set _ _ _ (by omega)).set _ _ _ (by omega)) ((hT.a 249 _ 0 1 (by decide +kernel) (by decide +kernel) (by first | exact b70 | decide)).a 249 _ 0 1 (by decide +kernel) (by decide +kernel) (by first | exact b70 | decide)) ?_ ?_ setI_at rfl ?_ ?_ ?_ ?_ (fun j => ?_) (fun j => ?_) (tc.fr b69.2 (by omega) ⟨fun j => ⟨?_, ?_, ?_, ?_⟩, fun K j hK h1 h2 => ?_, fun j h1 h2 => ?_, fun K hK => ?_, fun j h1 h2 => ?_⟩) ⟨fun z => by omega, fun z => by omega, fun _ _ => ⟨?_, fun z => ?_⟩, fun z => by omega, fun z => by omega, fun z => by omega⟩ (HLD.next G hc hi hp (by omega)))⟩
            all_goals first | (simp (disch := omega) only [setI_at, setI_no, cpy_at, cpy_no]; done) | (simp (disch := omega) only [setI_at, setI_no, cpy_at, cpy_no]; first | decide | rfl | (rw [if_neg (fun y => y yC)]; decide) | (rw [if_pos yC]; decide) | (rw [if_pos (by omega)]; done) | (rw [if_neg (by omega), if_pos (by omega)]; done) | (rw [if_neg (by omega), if_neg (by omega)]; exact hv) | (rw [if_pos (by decide)]; decide)) | (simp (disch := omega) only [setI_at, setI_no, cpy_at, cpy_no] at z; exfalso; first | exact absurd z (by decide) | exact yC z)
          · exfalso; omega
          · exfalso; omega
          · exfalso; omega
          · exfalso; omega
          · exfalso; omega
          · exfalso; omega
        · exfalso; omega
        · exfalso; omega
        · exfalso; omega
        · exfalso; omega
        · exfalso; omega
        · exfalso; omega
        · exfalso; omega
    · have n9 : 0 < (hm.1 261 (qT g c i)).toInt := by omega
      have hv : h.1 (6 + 24 * qT g c i) (h.1 (5 + 24 * qT g c i) 2 &&& Int32.ofInt 63).toNatClampNeg = hm.1 260 (48 * qT g c i) := by
        rw [← rg0]
        exact tq.2.1 0 n9
      rcases W with ⟨q1, q2, q3, q4, q5, q6, q7, q8, q9, q10, q11, q12, q13, q14, w⟩ | ⟨q1, q2, q3, q4, q5, q6, q7, q8, q9, q10, q11, q12, q13, q14, q15, q16, q17, w⟩ | ⟨q1, q2, q3, q4, q5, q6, q7, q8, q9, q10, q11, q12, q13, q14, q15, q16, q17, w⟩ | ⟨q1, q2, q3, q4, q5, q6, q7, q8, q9, q10, q11, q12, q13, w⟩ | ⟨q1, q2, q3, q4, q5, q6, q7, q8, q9, q10, q11, q12, q13, q14, q15, q16, q17, q18, w⟩ | ⟨q1, q2, q3, q4, q5, q6, q7, q8, q9, q10, q11, q12, q13, q14, q15, q16, q17, q18, w⟩ | ⟨q1, q2, q3, q4, q5, q6, q7, q8, q9, q10, q11, q12, q13, q14, q15, w⟩ | ⟨q1, q2, q3, q4, q5, q6, q7, q8, q9, q10, q11, q12, q13, q14, q15, w⟩ | ⟨q1, q2, q3, q4, q5, q6, q7, q8, q9, q10, q11, q12, q13, q14, q15, w⟩ | ⟨q1, q2, q3, q4, q5, q6, q7, q8, q9, q10, q11, q12, q13, q14, q15, w⟩ | ⟨q1, q2, q3, q4, q5, q6, q7, q8, q9, q10, q11, q12, q13, q14, q15, q16, q17, q18, w⟩ | ⟨q1, q2, q3, q4, q5, q6, q7, q8, q9, q10, q11, q12, q13, q14, q15, q16, q17, q18, w⟩ | ⟨q1, q2, q3, q4, q5, q6, q7, q8, q9, q10, q11, q12, q13, q14, w⟩ | ⟨q1, q2, q3, q4, q5, q6, q7, q8, q9, q10, q11, w⟩ | ⟨q1, q2, q3, q4, q5, q6, q7, q8, q9, q10, q11, q12, q13, q14, w⟩ | ⟨q1, q2, q3, q4, q5, q6, q7, q8, q9, q10, q11, q12, q13, q14, q15, q16, q17, w⟩ | ⟨q1, q2, q3, q4, q5, q6, q7, q8, q9, q10, q11, q12, q13, q14, q15, q16, q17, w⟩ | ⟨q1, q2, q3, q4, q5, q6, q7, q8, q9, q10, q11, q12, q13, w⟩ | ⟨q1, q2, q3, q4, q5, q6, q7, q8, q9, q10, q11, q12, q13, q14, q15, q16, q17, q18, w⟩ | ⟨q1, q2, q3, q4, q5, q6, q7, q8, q9, q10, q11, q12, q13, q14, q15, q16, q17, q18, w⟩ | ⟨q1, q2, q3, q4, q5, q6, q7, q8, q9, q10, q11, q12, q13, q14, q15, w⟩ | ⟨q1, q2, q3, q4, q5, q6, q7, q8, q9, q10, q11, q12, q13, q14, q15, w⟩ | ⟨q1, q2, q3, q4, q5, q6, q7, q8, q9, q10, q11, q12, q13, q14, q15, w⟩ | ⟨q1, q2, q3, q4, q5, q6, q7, q8, q9, q10, q11, q12, q13, q14, q15, w⟩ | ⟨q1, q2, q3, q4, q5, q6, q7, q8, q9, q10, q11, q12, q13, q14, q15, q16, q17, q18, w⟩ | ⟨q1, q2, q3, q4, q5, q6, q7, q8, q9, q10, q11, q12, q13, q14, q15, q16, q17, q18, w⟩ | ⟨q1, q2, q3, q4, q5, q6, q7, q8, q9, q10, q11, q12, q13, q14, w⟩ | ⟨q1, q2, q3, q4, q5, q6, q7, q8, q9, q10, q11, w⟩
      · exfalso; omega
      · exfalso; omega
      · exfalso; omega
      · exfalso; omega
      · exfalso; omega
      · exfalso; omega
      · exfalso; omega
      · exfalso; omega
      · exfalso; omega
      · exfalso; omega
      · exfalso; omega
      · exfalso; omega
      · exfalso; omega
      · exfalso; omega
      · exfalso; omega
      · exfalso; omega
      · exfalso; omega
      · exfalso; omega
      · exfalso; omega
      · exfalso; omega
      · exfalso; omega
      · exfalso; omega
      · clear q1 q2 q3 q4 q5 q6 q7 q8 q9 q10 q11 q12 q13 q14 q15
        rcases Z with ⟨z1, z2, z3, wz⟩ | ⟨z1, z2, z3, z4, z5, z6, wz⟩ | ⟨z1, z2, z3, z4, z5, z6, wz⟩ | ⟨z1, z2, z3, z4, z5, wz⟩ | ⟨z1, z2, z3, z4, z5, wz⟩ | ⟨z1, z2, z3, z4, z5, wz⟩ | ⟨z1, z2, z3, wz⟩ | ⟨z1, z2, z3, z4, wz⟩ | ⟨z1, z2, z3, z4, z5, wz⟩ | ⟨z1, z2, z3, z4, z5, wz⟩
        · exfalso; omega
        · exfalso; omega
        · exfalso; omega
        · exfalso; omega
        · exfalso; omega
        · clear z1 z2 z3 z4 z5 tb I
          obtain ⟨y1, y2, y3⟩ := tri wz
          subst y2
          rw [e1] at w
          refine ⟨_, _, w, e4 y1 y3, RRM.imp Or.inl (RRM.cu G (b' := (st : Int) + 1) (by omega) R (((((KFX.refl _ _ _ _).set _ _ _ (by omega)).set _ _ _ (by omega)).set _ _ _ (by omega)).set _ _ _ (by omega)) (((KFM.refl _ _ _ _).set _ _ _ (by omega)).set _ _ _ (by omega)) ((hT.a 249 _ 0 1 (by decide +kernel) (by decide +kernel) (by first | exact b70 | decide)).full 248 _ _ (by decide +kernel) (by decide +kernel)) ?_ ?_ setI_at rfl ?_ ?_ ?_ ?_ (fun j => ?_) (fun j => ?_) (tc.fr b69.2 (by omega) ⟨fun j => ⟨?_, ?_, ?_, ?_⟩, fun K j hK h1 h2 => ?_, fun j h1 h2 => ?_, fun K hK => ?_, fun j h1 h2 => ?_⟩) ⟨fun z => by omega, fun z => by omega, fun _ _ => ⟨?_, fun z => ?_⟩, fun z => by omega, fun z => by omega, fun z => by omega⟩ (HLD.next G hc hi hp (by omega)))⟩
          all_goals first | (simp (disch := omega) only [setI_at, setI_no, cpy_at, cpy_no]; done) | (simp (disch := omega) only [setI_at, setI_no, cpy_at, cpy_no]; first | decide | rfl | (rw [if_neg (fun y => y yC)]; decide) | (rw [if_pos yC]; decide) | (rw [if_pos (by omega)]; done) | (rw [if_neg (by omega), if_pos (by omega)]; done) | (rw [if_neg (by omega), if_neg (by omega)]; exact hv) | (rw [if_pos (by decide)]; decide)) | (simp (disch := omega) only [setI_at, setI_no, cpy_at, cpy_no] at z; exfalso; first | exact absurd z (by decide) | exact yC z)
        · exfalso; omega
        · exfalso; omega
        · exfalso; omega
        · exfalso; omega
      · exfalso; omega
      · exfalso; omega
      · exfalso; omega
      · exfalso; omega
      · exfalso; omega
  · by_cases n0 : n = 0
    · by_cases yC : (hm.1 262 (qT g c i)).toInt = 0
      · have h4 : (h.1 (5 + 24 * qT g c i) 4).toInt ≤ 0 := by omega
        by_cases yo : (hm.1 254 (4 * qT g c i)).toInt = c
        · have oc := owc yo
          rcases W with ⟨q1, q2, q3, q4, q5, q6, q7, q8, q9, q10, q11, q12, q13, q14, w⟩ | ⟨q1, q2, q3, q4, q5, q6, q7, q8, q9, q10, q11, q12, q13, q14, q15, q16, q17, w⟩ | ⟨q1, q2, q3, q4, q5, q6, q7, q8, q9, q10, q11, q12, q13, q14, q15, q16, q17, w⟩ | ⟨q1, q2, q3, q4, q5, q6, q7, q8, q9, q10, q11, q12, q13, w⟩ | ⟨q1, q2, q3, q4, q5, q6, q7, q8, q9, q10, q11, q12, q13, q14, q15, q16, q17, q18, w⟩ | ⟨q1, q2, q3, q4, q5, q6, q7, q8, q9, q10, q11, q12, q13, q14, q15, q16, q17, q18, w⟩ | ⟨q1, q2, q3, q4, q5, q6, q7, q8, q9, q10, q11, q12, q13, q14, q15, w⟩ | ⟨q1, q2, q3, q4, q5, q6, q7, q8, q9, q10, q11, q12, q13, q14, q15, w⟩ | ⟨q1, q2, q3, q4, q5, q6, q7, q8, q9, q10, q11, q12, q13, q14, q15, w⟩ | ⟨q1, q2, q3, q4, q5, q6, q7, q8, q9, q10, q11, q12, q13, q14, q15, w⟩ | ⟨q1, q2, q3, q4, q5, q6, q7, q8, q9, q10, q11, q12, q13, q14, q15, q16, q17, q18, w⟩ | ⟨q1, q2, q3, q4, q5, q6, q7, q8, q9, q10, q11, q12, q13, q14, q15, q16, q17, q18, w⟩ | ⟨q1, q2, q3, q4, q5, q6, q7, q8, q9, q10, q11, q12, q13, q14, w⟩ | ⟨q1, q2, q3, q4, q5, q6, q7, q8, q9, q10, q11, w⟩ | ⟨q1, q2, q3, q4, q5, q6, q7, q8, q9, q10, q11, q12, q13, q14, w⟩ | ⟨q1, q2, q3, q4, q5, q6, q7, q8, q9, q10, q11, q12, q13, q14, q15, q16, q17, w⟩ | ⟨q1, q2, q3, q4, q5, q6, q7, q8, q9, q10, q11, q12, q13, q14, q15, q16, q17, w⟩ | ⟨q1, q2, q3, q4, q5, q6, q7, q8, q9, q10, q11, q12, q13, w⟩ | ⟨q1, q2, q3, q4, q5, q6, q7, q8, q9, q10, q11, q12, q13, q14, q15, q16, q17, q18, w⟩ | ⟨q1, q2, q3, q4, q5, q6, q7, q8, q9, q10, q11, q12, q13, q14, q15, q16, q17, q18, w⟩ | ⟨q1, q2, q3, q4, q5, q6, q7, q8, q9, q10, q11, q12, q13, q14, q15, w⟩ | ⟨q1, q2, q3, q4, q5, q6, q7, q8, q9, q10, q11, q12, q13, q14, q15, w⟩ | ⟨q1, q2, q3, q4, q5, q6, q7, q8, q9, q10, q11, q12, q13, q14, q15, w⟩ | ⟨q1, q2, q3, q4, q5, q6, q7, q8, q9, q10, q11, q12, q13, q14, q15, w⟩ | ⟨q1, q2, q3, q4, q5, q6, q7, q8, q9, q10, q11, q12, q13, q14, q15, q16, q17, q18, w⟩ | ⟨q1, q2, q3, q4, q5, q6, q7, q8, q9, q10, q11, q12, q13, q14, q15, q16, q17, q18, w⟩ | ⟨q1, q2, q3, q4, q5, q6, q7, q8, q9, q10, q11, q12, q13, q14, w⟩ | ⟨q1, q2, q3, q4, q5, q6, q7, q8, q9, q10, q11, w⟩
          · exfalso; omega
          · exfalso; omega
          · exfalso; omega
          · exfalso; omega
          · exfalso; omega
          · exfalso; omega
          · exfalso; omega
          · exfalso; omega
          · exfalso; omega
          · exfalso; omega
          · exfalso; omega
          · exfalso; omega
          · exfalso; omega
          · exfalso; omega
          · exfalso; omega
          · exfalso; omega
          · exfalso; omega
          · exfalso; omega
          · exfalso; omega
          · clear q1 q2 q3 q4 q5 q6 q7 q8 q9 q10 q11 q12 q13 q14 q15 q16 q17 q18
            rcases Z with ⟨z1, z2, z3, wz⟩ | ⟨z1, z2, z3, z4, z5, z6, wz⟩ | ⟨z1, z2, z3, z4, z5, z6, wz⟩ | ⟨z1, z2, z3, z4, z5, wz⟩ | ⟨z1, z2, z3, z4, z5, wz⟩ | ⟨z1, z2, z3, z4, z5, wz⟩ | ⟨z1, z2, z3, wz⟩ | ⟨z1, z2, z3, z4, wz⟩ | ⟨z1, z2, z3, z4, z5, wz⟩ | ⟨z1, z2, z3, z4, z5, wz⟩
            · exfalso; omega
            · exfalso; omega
            · clear z1 z2 z3 z4 z5 z6 tb I
              obtain ⟨y1, y2, y3⟩ := tri wz
              subst y2
              refine ⟨_, _, w, e4 y1 y3, ?_⟩
              have Q := RRM.wait (HN := fl_setI (fl_setI h (152 + 12 * c + i) 14 (Int32.ofInt 0)) (152 + 12 * c + i) 13 (Int32.ofInt 0)) (MN := fl_setI hm 249 c (Int32.ofInt 0)) (v := (Int32.ofInt (-1))) G R hp (Or.inl hk) (fun r j z => ?_) rfl (fun K j z => ?_) rfl (hT.a 249 _ 0 1 (by decide +kernel) (by decide +kernel) (by decide)) (Or.inr ⟨rfl, oc, rfl⟩)
              · exact RRM.imp (fun z => Or.inr (Or.inl z)) Q
              · simp (disch := omega) only [setI_at, setI_no]
              · simp (disch := omega) only [setI_at, setI_no]
            · exfalso; omega
            · exfalso; omega
            · exfalso; omega
            · exfalso; omega
            · exfalso; omega
            · exfalso; omega
            · exfalso; omega
          · exfalso; omega
          · exfalso; omega
          · exfalso; omega
          · exfalso; omega
          · exfalso; omega
          · exfalso; omega
          · exfalso; omega
          · exfalso; omega
        · rcases W with ⟨q1, q2, q3, q4, q5, q6, q7, q8, q9, q10, q11, q12, q13, q14, w⟩ | ⟨q1, q2, q3, q4, q5, q6, q7, q8, q9, q10, q11, q12, q13, q14, q15, q16, q17, w⟩ | ⟨q1, q2, q3, q4, q5, q6, q7, q8, q9, q10, q11, q12, q13, q14, q15, q16, q17, w⟩ | ⟨q1, q2, q3, q4, q5, q6, q7, q8, q9, q10, q11, q12, q13, w⟩ | ⟨q1, q2, q3, q4, q5, q6, q7, q8, q9, q10, q11, q12, q13, q14, q15, q16, q17, q18, w⟩ | ⟨q1, q2, q3, q4, q5, q6, q7, q8, q9, q10, q11, q12, q13, q14, q15, q16, q17, q18, w⟩ | ⟨q1, q2, q3, q4, q5, q6, q7, q8, q9, q10, q11, q12, q13, q14, q15, w⟩ | ⟨q1, q2, q3, q4, q5, q6, q7, q8, q9, q10, q11, q12, q13, q14, q15, w⟩ | ⟨q1, q2, q3, q4, q5, q6, q7, q8, q9, q10, q11, q12, q13, q14, q15, w⟩ | ⟨q1, q2, q3, q4, q5, q6, q7, q8, q9, q10, q11, q12, q13, q14, q15, w⟩ | ⟨q1, q2, q3, q4, q5, q6, q7, q8, q9, q10, q11, q12, q13, q14, q15, q16, q17, q18, w⟩ | ⟨q1, q2, q3, q4, q5, q6, q7, q8, q9, q10, q11, q12, q13, q14, q15, q16, q17, q18, w⟩ | ⟨q1, q2, q3, q4, q5, q6, q7, q8, q9, q10, q11, q12, q13, q14, w⟩ | ⟨q1, q2, q3, q4, q5, q6, q7, q8, q9, q10, q11, w⟩ | ⟨q1, q2, q3, q4, q5, q6, q7, q8, q9, q10, q11, q12, q13, q14, w⟩ | ⟨q1, q2, q3, q4, q5, q6, q7, q8, q9, q10, q11, q12, q13, q14, q15, q16, q17, w⟩ | ⟨q1, q2, q3, q4, q5, q6, q7, q8, q9, q10, q11, q12, q13, q14, q15, q16, q17, w⟩ | ⟨q1, q2, q3, q4, q5, q6, q7, q8, q9, q10, q11, q12, q13, w⟩ | ⟨q1, q2, q3, q4, q5, q6, q7, q8, q9, q10, q11, q12, q13, q14, q15, q16, q17, q18, w⟩ | ⟨q1, q2, q3, q4, q5, q6, q7, q8, q9, q10, q11, q12, q13, q14, q15, q16, q17, q18, w⟩ | ⟨q1, q2, q3, q4, q5, q6, q7, q8, q9, q10, q11, q12, q13, q14, q15, w⟩ | ⟨q1, q2, q3, q4, q5, q6, q7, q8, q9, q10, q11, q12, q13, q14, q15, w⟩ | ⟨q1, q2, q3, q4, q5, q6, q7, q8, q9, q10, q11, q12, q13, q14, q15, w⟩ | ⟨q1, q2, q3, q4, q5, q6, q7, q8, q9, q10, q11, q12, q13, q14, q15, w⟩ | ⟨q1, q2, q3, q4, q5, q6, q7, q8, q9, q10, q11, q12, q13, q14, q15, q16, q17, q18, w⟩ | ⟨q1, q2, q3, q4, q5, q6, q7, q8, q9, q10, q11, q12, q13, q14, q15, q16, q17, q18, w⟩ | ⟨q1, q2, q3, q4, q5, q6, q7, q8, q9, q10, q11, q12, q13, q14, w⟩ | ⟨q1, q2, q3, q4, q5, q6, q7, q8, q9, q10, q11, w⟩
          · exfalso; omega
          · exfalso; omega
          · exfalso; omega
          · exfalso; omega
          · exfalso; omega
          · exfalso; omega
          · exfalso; omega
          · exfalso; omega
          · exfalso; omega
          · exfalso; omega
          · exfalso; omega
          · exfalso; omega
          · exfalso; omega
          · exfalso; omega
          · exfalso; omega
          · exfalso; omega
          · exfalso; omega
          · exfalso; omega
          · clear q1 q2 q3 q4 q5 q6 q7 q8 q9 q10 q11 q12 q13 q14 q15 q16 q17 q18
            rcases Z with ⟨z1, z2, z3, wz⟩ | ⟨z1, z2, z3, z4, z5, z6, wz⟩ | ⟨z1, z2, z3, z4, z5, z6, wz⟩ | ⟨z1, z2, z3, z4, z5, wz⟩ | ⟨z1, z2, z3, z4, z5, wz⟩ | ⟨z1, z2, z3, z4, z5, wz⟩ | ⟨z1, z2, z3, wz⟩ | ⟨z1, z2, z3, z4, wz⟩ | ⟨z1, z2, z3, z4, z5, wz⟩ | ⟨z1, z2, z3, z4, z5, wz⟩
            · exfalso; omega
            · clear z1 z2 z3 z4 z5 z6 tb I
              obtain ⟨y1, y2, y3⟩ := tri wz
              subst y2
              refine ⟨_, _, w, e4 y1 y3, ?_⟩
              have Q := RRM.wait (HN := fl_setI (fl_setI h (152 + 12 * c + i) 14 (Int32.ofInt 0)) (152 + 12 * c + i) 13 (Int32.ofInt 0)) (MN := fl_setI hm 249 c (Int32.ofInt 0)) (v := (hm.1 254 (4 * qT g c i))) G R hp (Or.inl hk) (fun r j z => ?_) rfl (fun K j z => ?_) rfl (hT.a 249 _ 0 1 (by decide +kernel) (by decide +kernel) (by decide)) (Or.inl ⟨rfl, rfl⟩)
              · exact RRM.imp (fun z => Or.inr (Or.inl z)) Q
              · simp (disch := omega) only [setI_at, setI_no]
              · simp (disch := omega) only [setI_at, setI_no]
            · exfalso; omega
            · exfalso; omega
            · exfalso; omega
            · exfalso; omega
            · exfalso; omega
            · exfalso; omega
            · exfalso; omega
            · exfalso; omega
          · exfalso; omega
          · exfalso; omega
          · exfalso; omega
          · exfalso; omega
          · exfalso; omega
          · exfalso; omega
          · exfalso; omega
          · exfalso; omega
          · exfalso; omega
      · have h4 : (h.1 (5 + 24 * qT g c i) 4).toInt > 0 := by omega
        rcases W with ⟨q1, q2, q3, q4, q5, q6, q7, q8, q9, q10, q11, q12, q13, q14, w⟩ | ⟨q1, q2, q3, q4, q5, q6, q7, q8, q9, q10, q11, q12, q13, q14, q15, q16, q17, w⟩ | ⟨q1, q2, q3, q4, q5, q6, q7, q8, q9, q10, q11, q12, q13, q14, q15, q16, q17, w⟩ | ⟨q1, q2, q3, q4, q5, q6, q7, q8, q9, q10, q11, q12, q13, w⟩ | ⟨q1, q2, q3, q4, q5, q6, q7, q8, q9, q10, q11, q12, q13, q14, q15, q16, q17, q18, w⟩ | ⟨q1, q2, q3, q4, q5, q6, q7, q8, q9, q10, q11, q12, q13, q14, q15, q16, q17, q18, w⟩ | ⟨q1, q2, q3, q4, q5, q6, q7, q8, q9, q10, q11, q12, q13, q14, q15, w⟩ | ⟨q1, q2, q3, q4, q5, q6, q7, q8, q9, q10, q11, q12, q13, q14, q15, w⟩ | ⟨q1, q2, q3, q4, q5, q6, q7, q8, q9, q10, q11, q12, q13, q14, q15, w⟩ | ⟨q1, q2, q3, q4, q5, q6, q7, q8, q9, q10, q11, q12, q13, q14, q15, w⟩ | ⟨q1, q2, q3, q4, q5, q6, q7, q8, q9, q10, q11, q12, q13, q14, q15, q16, q17, q18, w⟩ | ⟨q1, q2, q3, q4, q5, q6, q7, q8, q9, q10, q11, q12, q13, q14, q15, q16, q17, q18, w⟩ | ⟨q1, q2, q3, q4, q5, q6, q7, q8, q9, q10, q11, q12, q13, q14, w⟩ | ⟨q1, q2, q3, q4, q5, q6, q7, q8, q9, q10, q11, w⟩ | ⟨q1, q2, q3, q4, q5, q6, q7, q8, q9, q10, q11, q12, q13, q14, w⟩ | ⟨q1, q2, q3, q4, q5, q6, q7, q8, q9, q10, q11, q12, q13, q14, q15, q16, q17, w⟩ | ⟨q1, q2, q3, q4, q5, q6, q7, q8, q9, q10, q11, q12, q13, q14, q15, q16, q17, w⟩ | ⟨q1, q2, q3, q4, q5, q6, q7, q8, q9, q10, q11, q12, q13, w⟩ | ⟨q1, q2, q3, q4, q5, q6, q7, q8, q9, q10, q11, q12, q13, q14, q15, q16, q17, q18, w⟩ | ⟨q1, q2, q3, q4, q5, q6, q7, q8, q9, q10, q11, q12, q13, q14, q15, q16, q17, q18, w⟩ | ⟨q1, q2, q3, q4, q5, q6, q7, q8, q9, q10, q11, q12, q13, q14, q15, w⟩ | ⟨q1, q2, q3, q4, q5, q6, q7, q8, q9, q10, q11, q12, q13, q14, q15, w⟩ | ⟨q1, q2, q3, q4, q5, q6, q7, q8, q9, q10, q11, q12, q13, q14, q15, w⟩ | ⟨q1, q2, q3, q4, q5, q6, q7, q8, q9, q10, q11, q12, q13, q14, q15, w⟩ | ⟨q1, q2, q3, q4, q5, q6, q7, q8, q9, q10, q11, q12, q13, q14, q15, q16, q17, q18, w⟩ | ⟨q1, q2, q3, q4, q5, q6, q7, q8, q9, q10, q11, q12, q13, q14, q15, q16, q17, q18, w⟩ | ⟨q1, q2, q3, q4, q5, q6, q7, q8, q9, q10, q11, q12, q13, q14, w⟩ | ⟨q1, q2, q3, q4, q5, q6, q7, q8, q9, q10, q11, w⟩
        · exfalso; omega
        · exfalso; omega
        · exfalso; omega
        · exfalso; omega
        · exfalso; omega
        · exfalso; omega
        · exfalso; omega
        · exfalso; omega
        · exfalso; omega
        · exfalso; omega
        · exfalso; omega
        · exfalso; omega
        · exfalso; omega
        · exfalso; omega
        · exfalso; omega
        · exfalso; omega
        · exfalso; omega
        · exfalso; omega
        · exfalso; omega
        · exfalso; omega
        · clear q1 q2 q3 q4 q5 q6 q7 q8 q9 q10 q11 q12 q13 q14 q15
          rcases Z with ⟨z1, z2, z3, wz⟩ | ⟨z1, z2, z3, z4, z5, z6, wz⟩ | ⟨z1, z2, z3, z4, z5, z6, wz⟩ | ⟨z1, z2, z3, z4, z5, wz⟩ | ⟨z1, z2, z3, z4, z5, wz⟩ | ⟨z1, z2, z3, z4, z5, wz⟩ | ⟨z1, z2, z3, wz⟩ | ⟨z1, z2, z3, z4, wz⟩ | ⟨z1, z2, z3, z4, z5, wz⟩ | ⟨z1, z2, z3, z4, z5, wz⟩
          · exfalso; omega
          · exfalso; omega
          · exfalso; omega
          · clear z1 z2 z3 z4 z5 tb I
            obtain ⟨y1, y2, y3⟩ := tri wz
            subst y2
            rw [e1] at w
            refine ⟨_, _, w, e4 y1 y3, RRM.imp Or.inl (RRM.cu G (b' := (st : Int) + 1) (by omega) R (((((KFX.refl _ _ _ _).set _ _ _ (by omega)).set _ _ _ (by omega)).set _ _ _ (by omega)).set _ _ _ (by omega)) (((KFM.refl _ _ _ _).set _ _ _ (by omega)).set _ _ _ (by omega)) ((hT.a 249 _ 0 1 (by decide +kernel) (by decide +kernel) (by first | exact b70 | decide)).a 249 _ 0 1 (by decide +kernel) (by decide +kernel) (by first | exact b70 | decide)) ?_ ?_ setI_at rfl ?_ ?_ ?_ ?_ (fun j => ?_) (fun j => ?_) (tc.fr b69.2 (by omega) ⟨fun j => ⟨?_, ?_, ?_, ?_⟩, fun K j hK h1 h2 => ?_, fun j h1 h2 => ?_, fun K hK => ?_, fun j h1 h2 => ?_⟩) ⟨fun z => by omega, fun z => by omega, fun _ _ => ⟨?_, fun z => ?_⟩, fun z => by omega, fun z => by omega, fun z => by omega⟩ (HLD.next G hc hi hp (by omega)))⟩
            all_goals first | (simp (disch := omega) only [setI_at, setI_no, cpy_at, cpy_no]; done) | (simp (disch := omega) only [setI_at, setI_no, cpy_at, cpy_no]; first | decide | rfl | (rw [if_neg (fun y => y yC)]; decide) | (rw [if_pos yC]; decide) | (rw [if_pos (by omega)]; done) | (rw [if_neg (by omega), if_pos (by omega)]; done) | (rw [if_neg (by omega), if_neg (by omega)]; exact hv) | (rw [if_pos (by decide)]; decide)) | (simp (disch := omega) only [setI_at, setI_no, cpy_at, cpy_no] at z; exfalso; first | exact absurd z (by decide) | exact yC z)
          · exfalso; omega
          · exfalso; omega
          · exfalso; omega
          · exfalso; omega
          · exfalso; omega
          · exfalso; omega
        · exfalso; omega
        · exfalso; omega
        · exfalso; omega
        · exfalso; omega
        · exfalso; omega
        · exfalso; omega
        · exfalso; omega
    · have n9 : 0 < (hm.1 261 (qT g c i)).toInt := by omega
      have hv : h.1 (6 + 24 * qT g c i) ((h.1 (5 + 24 * qT g c i) 2 + h.1 (5 + 24 * qT g c i) 3 - Int32.ofInt 1) &&& Int32.ofInt 63).toNatClampNeg = hm.1 260 ((Int32.ofInt 48) * Int32.ofNat (qT g c i) + (hm.1 261 (qT g c i) - Int32.ofInt 1)).toNatClampNeg := by
        rw [en, el, rg_last (by omega) (by omega), osub (by omega) (by omega), i48 (by omega) (by omega)]
        exact tq.2.1 (n - 1) (by omega)
      rcases W with ⟨q1, q2, q3, q4, q5, q6, q7, q8, q9, q10, q11, q12, q13, q14, w⟩ | ⟨q1, q2, q3, q4, q5, q6, q7, q8, q9, q10, q11, q12, q13, q14, q15, q16, q17, w⟩ | ⟨q1, q2, q3, q4, q5, q6, q7, q8, q9, q10, q11, q12, q13, q14, q15, q16, q17, w⟩ | ⟨q1, q2, q3, q4, q5, q6, q7, q8, q9, q10, q11, q12, q13, w⟩ | ⟨q1, q2, q3, q4, q5, q6, q7, q8, q9, q10, q11, q12, q13, q14, q15, q16, q17, q18, w⟩ | ⟨q1, q2, q3, q4, q5, q6, q7, q8, q9, q10, q11, q12, q13, q14, q15, q16, q17, q18, w⟩ | ⟨q1, q2, q3, q4, q5, q6, q7, q8, q9, q10, q11, q12, q13, q14, q15, w⟩ | ⟨q1, q2, q3, q4, q5, q6, q7, q8, q9, q10, q11, q12, q13, q14, q15, w⟩ | ⟨q1, q2, q3, q4, q5, q6, q7, q8, q9, q10, q11, q12, q13, q14, q15, w⟩ | ⟨q1, q2, q3, q4, q5, q6, q7, q8, q9, q10, q11, q12, q13, q14, q15, w⟩ | ⟨q1, q2, q3, q4, q5, q6, q7, q8, q9, q10, q11, q12, q13, q14, q15, q16, q17, q18, w⟩ | ⟨q1, q2, q3, q4, q5, q6, q7, q8, q9, q10, q11, q12, q13, q14, q15, q16, q17, q18, w⟩ | ⟨q1, q2, q3, q4, q5, q6, q7, q8, q9, q10, q11, q12, q13, q14, w⟩ | ⟨q1, q2, q3, q4, q5, q6, q7, q8, q9, q10, q11, w⟩ | ⟨q1, q2, q3, q4, q5, q6, q7, q8, q9, q10, q11, q12, q13, q14, w⟩ | ⟨q1, q2, q3, q4, q5, q6, q7, q8, q9, q10, q11, q12, q13, q14, q15, q16, q17, w⟩ | ⟨q1, q2, q3, q4, q5, q6, q7, q8, q9, q10, q11, q12, q13, q14, q15, q16, q17, w⟩ | ⟨q1, q2, q3, q4, q5, q6, q7, q8, q9, q10, q11, q12, q13, w⟩ | ⟨q1, q2, q3, q4, q5, q6, q7, q8, q9, q10, q11, q12, q13, q14, q15, q16, q17, q18, w⟩ | ⟨q1, q2, q3, q4, q5, q6, q7, q8, q9, q10, q11, q12, q13, q14, q15, q16, q17, q18, w⟩ | ⟨q1, q2, q3, q4, q5, q6, q7, q8, q9, q10, q11, q12, q13, q14, q15, w⟩ | ⟨q1, q2, q3, q4, q5, q6, q7, q8, q9, q10, q11, q12, q13, q14, q15, w⟩ | ⟨q1, q2, q3, q4, q5, q6, q7, q8, q9, q10, q11, q12, q13, q14, q15, w⟩ | ⟨q1, q2, q3, q4, q5, q6, q7, q8, q9, q10, q11, q12, q13, q14, q15, w⟩ | ⟨q1, q2, q3, q4, q5, q6, q7, q8, q9, q10, q11, q12, q13, q14, q15, q16, q17, q18, w⟩ | ⟨q1, q2, q3, q4, q5, q6, q7, q8, q9, q10, q11, q12, q13, q14, q15, q16, q17, q18, w⟩ | ⟨q1, q2, q3, q4, q5, q6, q7, q8, q9, q10, q11, q12, q13, q14, w⟩ | ⟨q1, q2, q3, q4, q5, q6, q7, q8, q9, q10, q11, w⟩
      · exfalso; omega
      · exfalso; omega
      · exfalso; omega
      · exfalso; omega
      · exfalso; omega
      · exfalso; omega
      · exfalso; omega
      · exfalso; omega
      · exfalso; omega
      · exfalso; omega
      · exfalso; omega
      · exfalso; omega
      · exfalso; omega
      · exfalso; omega
      · exfalso; omega
      · exfalso; omega
      · exfalso; omega
      · exfalso; omega
      · exfalso; omega
      · exfalso; omega
      · exfalso; omega
      · clear q1 q2 q3 q4 q5 q6 q7 q8 q9 q10 q11 q12 q13 q14 q15
        rcases Z with ⟨z1, z2, z3, wz⟩ | ⟨z1, z2, z3, z4, z5, z6, wz⟩ | ⟨z1, z2, z3, z4, z5, z6, wz⟩ | ⟨z1, z2, z3, z4, z5, wz⟩ | ⟨z1, z2, z3, z4, z5, wz⟩ | ⟨z1, z2, z3, z4, z5, wz⟩ | ⟨z1, z2, z3, wz⟩ | ⟨z1, z2, z3, z4, wz⟩ | ⟨z1, z2, z3, z4, z5, wz⟩ | ⟨z1, z2, z3, z4, z5, wz⟩
        · exfalso; omega
        · exfalso; omega
        · exfalso; omega
        · exfalso; omega
        · clear z1 z2 z3 z4 z5 tb I
          obtain ⟨y1, y2, y3⟩ := tri wz
          subst y2
          rw [e1] at w
          refine ⟨_, _, w, e4 y1 y3, RRM.imp Or.inl (RRM.cu G (b' := (st : Int) + 1) (by omega) R (((((KFX.refl _ _ _ _).set _ _ _ (by omega)).set _ _ _ (by omega)).set _ _ _ (by omega)).set _ _ _ (by omega)) (((KFM.refl _ _ _ _).set _ _ _ (by omega)).set _ _ _ (by omega)) ((hT.a 249 _ 0 1 (by decide +kernel) (by decide +kernel) (by first | exact b70 | decide)).full 248 _ _ (by decide +kernel) (by decide +kernel)) ?_ ?_ setI_at rfl ?_ ?_ ?_ ?_ (fun j => ?_) (fun j => ?_) (tc.fr b69.2 (by omega) ⟨fun j => ⟨?_, ?_, ?_, ?_⟩, fun K j hK h1 h2 => ?_, fun j h1 h2 => ?_, fun K hK => ?_, fun j h1 h2 => ?_⟩) ⟨fun z => by omega, fun z => by omega, fun _ _ => ⟨?_, fun z => ?_⟩, fun z => by omega, fun z => by omega, fun z => by omega⟩ (HLD.next G hc hi hp (by omega)))⟩
          all_goals first | (simp (disch := omega) only [setI_at, setI_no, cpy_at, cpy_no]; done) | (simp (disch := omega) only [setI_at, setI_no, cpy_at, cpy_no]; first | decide | rfl | (rw [if_neg (fun y => y yC)]; decide) | (rw [if_pos yC]; decide) | (rw [if_pos (by omega)]; done) | (rw [if_neg (by omega), if_pos (by omega)]; done) | (rw [if_neg (by omega), if_neg (by omega)]; exact hv) | (rw [if_pos (by decide)]; decide)) | (simp (disch := omega) only [setI_at, setI_no, cpy_at, cpy_no] at z; exfalso; first | exact absurd z (by decide) | exact yC z)
        · exfalso; omega
        · exfalso; omega
        · exfalso; omega
        · exfalso; omega
        · exfalso; omega
      · exfalso; omega
      · exfalso; omega
      · exfalso; omega
      · exfalso; omega
      · exfalso; omega
      · exfalso; omega
  · rcases W with ⟨q1, q2, q3, q4, q5, q6, q7, q8, q9, q10, q11, q12, q13, q14, w⟩ | ⟨q1, q2, q3, q4, q5, q6, q7, q8, q9, q10, q11, q12, q13, q14, q15, q16, q17, w⟩ | ⟨q1, q2, q3, q4, q5, q6, q7, q8, q9, q10, q11, q12, q13, q14, q15, q16, q17, w⟩ | ⟨q1, q2, q3, q4, q5, q6, q7, q8, q9, q10, q11, q12, q13, w⟩ | ⟨q1, q2, q3, q4, q5, q6, q7, q8, q9, q10, q11, q12, q13, q14, q15, q16, q17, q18, w⟩ | ⟨q1, q2, q3, q4, q5, q6, q7, q8, q9, q10, q11, q12, q13, q14, q15, q16, q17, q18, w⟩ | ⟨q1, q2, q3, q4, q5, q6, q7, q8, q9, q10, q11, q12, q13, q14, q15, w⟩ | ⟨q1, q2, q3, q4, q5, q6, q7, q8, q9, q10, q11, q12, q13, q14, q15, w⟩ | ⟨q1, q2, q3, q4, q5, q6, q7, q8, q9, q10, q11, q12, q13, q14, q15, w⟩ | ⟨q1, q2, q3, q4, q5, q6, q7, q8, q9, q10, q11, q12, q13, q14, q15, w⟩ | ⟨q1, q2, q3, q4, q5, q6, q7, q8, q9, q10, q11, q12, q13, q14, q15, q16, q17, q18, w⟩ | ⟨q1, q2, q3, q4, q5, q6, q7, q8, q9, q10, q11, q12, q13, q14, q15, q16, q17, q18, w⟩ | ⟨q1, q2, q3, q4, q5, q6, q7, q8, q9, q10, q11, q12, q13, q14, w⟩ | ⟨q1, q2, q3, q4, q5, q6, q7, q8, q9, q10, q11, w⟩ | ⟨q1, q2, q3, q4, q5, q6, q7, q8, q9, q10, q11, q12, q13, q14, w⟩ | ⟨q1, q2, q3, q4, q5, q6, q7, q8, q9, q10, q11, q12, q13, q14, q15, q16, q17, w⟩ | ⟨q1, q2, q3, q4, q5, q6, q7, q8, q9, q10, q11, q12, q13, q14, q15, q16, q17, w⟩ | ⟨q1, q2, q3, q4, q5, q6, q7, q8, q9, q10, q11, q12, q13, w⟩ | ⟨q1, q2, q3, q4, q5, q6, q7, q8, q9, q10, q11, q12, q13, q14, q15, q16, q17, q18, w⟩ | ⟨q1, q2, q3, q4, q5, q6, q7, q8, q9, q10, q11, q12, q13, q14, q15, q16, q17, q18, w⟩ | ⟨q1, q2, q3, q4, q5, q6, q7, q8, q9, q10, q11, q12, q13, q14, q15, w⟩ | ⟨q1, q2, q3, q4, q5, q6, q7, q8, q9, q10, q11, q12, q13, q14, q15, w⟩ | ⟨q1, q2, q3, q4, q5, q6, q7, q8, q9, q10, q11, q12, q13, q14, q15, w⟩ | ⟨q1, q2, q3, q4, q5, q6, q7, q8, q9, q10, q11, q12, q13, q14, q15, w⟩ | ⟨q1, q2, q3, q4, q5, q6, q7, q8, q9, q10, q11, q12, q13, q14, q15, q16, q17, q18, w⟩ | ⟨q1, q2, q3, q4, q5, q6, q7, q8, q9, q10, q11, q12, q13, q14, q15, q16, q17, q18, w⟩ | ⟨q1, q2, q3, q4, q5, q6, q7, q8, q9, q10, q11, q12, q13, q14, w⟩ | ⟨q1, q2, q3, q4, q5, q6, q7, q8, q9, q10, q11, w⟩
    · exfalso; omega
    · exfalso; omega
    · exfalso; omega
    · exfalso; omega
    · exfalso; omega
    · exfalso; omega
    · exfalso; omega
    · exfalso; omega
    · exfalso; omega
    · exfalso; omega
    · exfalso; omega
    · exfalso; omega
    · exfalso; omega
    · exfalso; omega
    · exfalso; omega
    · exfalso; omega
    · exfalso; omega
    · exfalso; omega
    · exfalso; omega
    · exfalso; omega
    · exfalso; omega
    · exfalso; omega
    · exfalso; omega
    · exfalso; omega
    · exfalso; omega
    · exfalso; omega
    · exfalso; omega
    · clear q1 q2 q3 q4 q5 q6 q7 q8 q9 q10 q11
      rcases Z with ⟨z1, z2, z3, wz⟩ | ⟨z1, z2, z3, z4, z5, z6, wz⟩ | ⟨z1, z2, z3, z4, z5, z6, wz⟩ | ⟨z1, z2, z3, z4, z5, wz⟩ | ⟨z1, z2, z3, z4, z5, wz⟩ | ⟨z1, z2, z3, z4, z5, wz⟩ | ⟨z1, z2, z3, wz⟩ | ⟨z1, z2, z3, z4, wz⟩ | ⟨z1, z2, z3, z4, z5, wz⟩ | ⟨z1, z2, z3, z4, z5, wz⟩
      · clear z1 z2 z3 tb I
        obtain ⟨y1, y2, y3⟩ := tri wz
        subst y2
        rw [e1] at w
        refine ⟨_, _, w, e4 y1 y3, RRM.imp Or.inl (RRM.cu G (b' := (st : Int) + 1) (by omega) R ((((KFX.refl _ _ _ _).set _ _ _ (by omega)).set _ _ _ (by omega)).set _ _ _ (by omega)) ((KFM.refl _ _ _ _).set _ _ _ (by omega)) (hT.a 249 _ 0 1 (by decide +kernel) (by decide +kernel) (by first | exact b70 | decide)) ?_ ?_ setI_at rfl ?_ ?_ ?_ ?_ (fun j => ?_) (fun j => ?_) (tc.fr b69.2 (by omega) ⟨fun j => ⟨?_, ?_, ?_, ?_⟩, fun K j hK h1 h2 => ?_, fun j h1 h2 => ?_, fun K hK => ?_, fun j h1 h2 => ?_⟩) ⟨fun z => by omega, fun z => by omega, fun _ _ => ⟨?_, fun z => ?_⟩, fun z => by omega, fun z => by omega, fun z => by omega⟩ (HLD.next G hc hi hp (by omega)))⟩
        all_goals first | (simp (disch := omega) only [setI_at, setI_no, cpy_at, cpy_no]; done) | (simp (disch := omega) only [setI_at, setI_no, cpy_at, cpy_no]; first | decide | rfl | (rw [if_neg (fun y => y yC)]; decide) | (rw [if_pos yC]; decide) | (rw [if_pos (by omega)]; done) | (rw [if_neg (by omega), if_pos (by omega)]; done) | (rw [if_neg (by omega), if_neg (by omega)]; exact hv) | (rw [if_pos (by decide)]; decide)) | (simp (disch := omega) only [setI_at, setI_no, cpy_at, cpy_no] at z; exfalso; first | exact absurd z (by decide) | exact yC z)
      · exfalso; omega
      · exfalso; omega
      · exfalso; omega
      · exfalso; omega
      · exfalso; omega
      · exfalso; omega
      · exfalso; omega
      · exfalso; omega
      · exfalso; omega
