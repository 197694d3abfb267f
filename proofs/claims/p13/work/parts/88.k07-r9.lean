
set_option maxRecDepth 20000
/-! STEPS ON BOTH SIDES: WRITE of a DEQUE, an ONCE, COPIES -/
set_option maxHeartbeats 8000000 in
theorem go_write_d {g h hm : Hp} {st c i p d d2 : Nat} {s : Int32} {r r2 : Option Value × Hp × Nat} (G : GS g) (R : RRM g h hm st c i st (CUn g h hm c i p p p)) (hp : p < stLen (qJ g c i)) (hC : stC (qJ g c i) p = 3) (hk : qK g c i = 2) (st6 : st < 900) (rm : qO g c i < 2 → (hm.1 261 (qT g c i)).toInt ≤ 39) (e : Ev d 45 (0, [some (.ref 208), some (.ref (148 + 12 * c)), some (.ref (152 + 12 * c + i)), some (.int s), none], [], h, fl_tot) r) (e2 : Ev d2 158 (113, lsM g c i p, [], hm, fl_tot) r2) : GO g st c i p (lsM g c i p) (fun h' hm' => CUn g h' hm' c i (p + 1) p (p + 1)) d2 r r2 := by
  obtain ⟨⟨X, M, S15, K, hT⟩, RT, RO, hc, hi, CK, b1, b2, ⟨u1, u2⟩, u3, u4, u5, u6, u7, u8⟩ := id R
  have c5 := G.c5 hc
  have i8 := G.i8 hc hi
  have T6 := G.T6 hc hi
  have hJ := G.len hc hi
  obtain ⟨p10, hp0, hpl, hcd⟩ := cx G X hc hi (by omega) hp u3 u5
  obtain ⟨eF, eK⟩ := cF G X hc hi
  obtain ⟨s1, s2, s3, s4, s5, s6, s7⟩ := SM.st G M hc hi
  obtain ⟨tc, ow1, ow2⟩ := RT _ (G.T hc hi)
  have I := G.inn hc hi hp
  have tb := G.tb hc hi hp
  have e1 : h.1 (152 + 12 * c + i) 9 + Int32.ofInt 1 = Int32.ofNat (p + 1) := by rw [u3, o32 (by omega)]
  have ex : (Int32.ofNat (8 * c + i)).toNatClampNeg = 8 * c + i := o32c (by omega)
  have ecn : (Int32.ofNat c).toNatClampNeg = c := o32c (by omega)
  have eTn : (Int32.ofNat (qT g c i)).toNatClampNeg = qT g c i := o32c (by omega)
  have b69 := TI.rng hT 69 6 0 40 (by decide +kernel) (by decide) (by decide) T6
  have kg : (g.1 224 (qT g c i)).toInt = 2 := hk
  have eO : (g.1 229 (8 * c + i)).toInt = qO g c i := rfl
  have op1 : 0 ≤ qO g c i ∧ qO g c i ≤ 4 := by
    obtain ⟨-, -, o3, o4⟩ := G.op hc hi
    rw [hk] at o4
    exact ⟨o3, o4⟩
  have hnk : (h.1 1 3).toInt = qc g := by rw [X.2.1.2]; exact G.1.2.2.2
  have hat : (h.1 (148 + 12 * c) 4).toInt = i := by rw [CK.1.1, i32n (by omega)]
  have hw0 : (h.1 (152 + 12 * c + i) 10).toInt = 0 := by rw [u1]; decide
  have kS : (Int32.ofInt (qS g c i p)).toInt = 2 := by rw [I.1, hC]; rfl
  have t3 := tb.2.2.2.2.2.2.2.2 hC
  obtain ⟨-, -, -, -, -, e2⟩ := z_does_write (h := hm) (c := Int32.ofNat c) (x := Int32.ofNat (8 * c + i)) M.1 kS e2
  obtain ⟨d3, v3, h3, n3, e3, e4⟩ := z_c169 e2
  have W := y_go_write_deque (X.sq (G.c5 hc)) (G.T6 hc hi) (G.c5 hc) (G.i8 hc hi) (X.ak G hc hi) hp0 hpl (by rw [hcd]; exact hC) (by rw [eK]; exact hk) hat hw0 hnk G.1.2.2.1 e
  have tq := tc.2.1 (by omega)
  obtain ⟨n, em⟩ : ∃ n : Nat, (hm.1 261 (qT g c i)).toInt = n := ⟨(hm.1 261 (qT g c i)).toInt.toNat, by
    have : 0 ≤ (hm.1 261 (qT g c i)).toInt := b69.1
    omega⟩
  have n40 : n ≤ 40 := by
    have : (hm.1 261 (qT g c i)).toInt ≤ 40 := b69.2
    omega
  have en := e61 em (by omega)
  have tl := congrArg Int32.toInt tq.1
  have tI : (Int32.ofNat (qT g c i)).toInt = qT g c i := i32n (by omega)
  have Z := z_write_deque M.1 (t := Int32.ofNat (qT g c i)) (m := n) (op := g.1 229 (8 * c + i)) (a := g.1 230 (8 * c + i)) (by rw [ex]; exact s2) (by rw [ex]; exact s5) (by rw [ex]; exact s6) (by omega) (by omega) (by rw [eTn]; exact em) (by omega) (by rw [eTn, s3]; exact hk) e3
  rw [eTn, ecn, s3, show ((Int32.ofInt 48) * Int32.ofNat (qT g c i) + hm.1 261 (qT g c i)).toNatClampNeg = 48 * qT g c i + n by rw [en, i48 (by omega) (by omega)], i48z T6] at Z
  obtain ⟨n1, n2⟩ := u7.2.2.1 hk t3.1
  by_cases y9 : (hm.1 249 c).toInt = 0
  · have n2 := n2 y9
    have n14 : (h.1 (152 + 12 * c + i) 14).toInt = 0 := by rw [n1, if_neg (fun z => z y9)]
    have op5 : qO g c i = 0 ∨ qO g c i = 1 ∨ qO g c i = 2 ∨ qO g c i = 3 ∨ qO g c i = 4 := by omega
    rcases op5 with o0 | o0 | o0 | o0 | o0
    · have w : r = (none, fl_setI (wkH (fl_setI (fl_setI h (6 + 24 * qT g c i) ((h.1 (5 + 24 * qT g c i) 2 + h.1 (5 + 24 * qT g c i) 3) &&& Int32.ofInt 63).toNatClampNeg (g.1 230 (8 * c + i))) (5 + 24 * qT g c i) 3 (h.1 (5 + 24 * qT g c i) 3 + Int32.ofInt 1)) (Int32.ofNat (qT g c i)) (qc g)) (152 + 12 * c + i) 9 (Int32.ofNat (p + 1)), fl_tot) := by
        rcases W with ⟨y1, y2, y3, y4, y5, y6, y7, y8, y9, y10, w⟩ | ⟨y1, y2, y3, y4, y5, y6, y7, y8, y9, y10, y11, w⟩ | ⟨y1, y2, y3, y4, y5, y6, y7, y8, y9, y10, y11, y12, w⟩ | ⟨y1, y2, y3, y4, y5, y6, y7, y8, y9, y10, y11, y12, y13, y14, w⟩ | ⟨y1, y2, y3, y4, y5, y6, y7, y8, y9, y10, y11, y12, y13, y14, w⟩ | ⟨y1, y2, y3, y4, y5, y6, y7, y8, y9, y10, y11, y12, y13, y14, y15, w⟩ | ⟨y1, y2, y3, y4, y5, y6, y7, y8, y9, y10, y11, y12, y13, y14, y15, w⟩ | ⟨y1, y2, y3, y4, y5, y6, y7, y8, y9, y10, y11, y12, y13, y14, y15, w⟩ | ⟨y1, y2, y3, y4, y5, y6, y7, y8, y9, y10, y11, y12, y13, y14, y15, y16, w⟩ | ⟨y1, y2, y3, y4, y5, y6, y7, y8, y9, y10, y11, y12, y13, y14, y15, y16, w⟩
        · exfalso; omega
        · rw [w, e1]
        · exfalso; omega
        · exfalso; omega
        · exfalso; omega
        · exfalso; omega
        · exfalso; omega
        · exfalso; omega
        · exfalso; omega
        · exfalso; omega
      have wz : Ev d3 169 (452, [some (.ref 223), some (.int (Int32.ofNat c)), some (.int (Int32.ofNat (8 * c + i))), some (.int (Int32.ofNat (qT g c i))), some (.int (g.1 229 (8 * c + i))), some (.int (g.1 230 (8 * c + i))), none], [], fl_setI (fl_setI hm 260 (48 * qT g c i + n) (g.1 230 (8 * c + i))) 261 (qT g c i) (hm.1 261 (qT g c i) + Int32.ofInt 1), fl_tot) (v3, h3, n3) := by
        rcases Z with ⟨y1, y2, y3, y4, wz⟩ | ⟨y1, y2, y3, y4, y5, y6, y7, y8, wz⟩ | ⟨y1, y2, y3, y4, y5, y6, y7, y8, y9, wz⟩ | ⟨y1, y2, y3, y4, y5, y6, y7, y8, y9, wz⟩ | ⟨y1, y2, y3, y4, y5, y6, y7, y8, wz⟩ | ⟨y1, y2, y3, y4, y5, y6, y7, y8, wz⟩ | ⟨y1, y2, y3, y4, y5, y6, wz⟩ | ⟨y1, y2, y3, y4, y5, wz⟩
        · exfalso; omega
        · exfalso; omega
        · exfalso; omega
        · exfalso; omega
        · exfalso; omega
        · exfalso; omega
        · exfalso; omega
        · exact wz
      clear W Z tb I t3
      have R1 := RRM.cu G (h' := fl_setI (fl_setI h (6 + 24 * qT g c i) ((h.1 (5 + 24 * qT g c i) 2 + h.1 (5 + 24 * qT g c i) 3) &&& Int32.ofInt 63).toNatClampNeg (g.1 230 (8 * c + i))) (5 + 24 * qT g c i) 3 (h.1 (5 + 24 * qT g c i) 3 + Int32.ofInt 1)) (hm' := fl_setI (fl_setI hm 260 (48 * qT g c i + n) (g.1 230 (8 * c + i))) 261 (qT g c i) (hm.1 261 (qT g c i) + Int32.ofInt 1)) (b' := (st : Int) + 1) (pc' := p) (p' := p + 1) (by omega) R (((KFX.refl _ _ _ _).set _ _ _ (by omega)).set _ _ _ (by omega)) (((KFM.refl _ _ _ _).set _ _ _ (by omega)).set _ _ _ (by omega)) ((hT.full 260 _ _ (by decide +kernel) (by decide +kernel)).a 261 _ 0 40 (by decide +kernel) (by decide +kernel) (by rw [en, o32 (by omega), i32n (by omega)]; omega)) ?_ ?_ ?_ rfl ?_ ?_ ?_ ?_ (fun j => ?_) (fun j => ?_) ⟨fun z => by omega, fun _ => (TRq.up (by omega) (TRq.putLast _ tq em (by omega))), fun z => by omega, fun z => by omega⟩ ⟨fun z => by omega, fun z => by omega, fun _ _ => ⟨?_, fun z => ?_⟩, fun z => by omega, fun z => by omega, fun z => by omega⟩ (HLD.next G hc hi hp (by omega))
      · obtain ⟨y, R2⟩ := R1.wr G ⟨none, Or.inl rfl, _, _, _, _, wz⟩
        obtain ⟨y1, y2, y3⟩ := tri y
        subst y2
        exact ⟨_, _, w, e4 y1 y3, R2⟩
      all_goals first | rfl | exact u3 | exact n1 | exact n2 | (simp (disch := omega) only [setI_at, setI_no, sfH_out, pfH_out]; done) | (simp (disch := omega) only [setI_at, setI_no, sfH_out, pfH_out]; first | exact u3 | exact n1 | exact n2) | exact absurd z y9 | (simp (disch := omega) only [setI_at, setI_no, sfH_out, pfH_out] at z; exact absurd z y9)
    · have w : r = (none, fl_setI (wkH (fl_setI (fl_setI (fl_setI h (5 + 24 * qT g c i) 2 ((h.1 (5 + 24 * qT g c i) 2 - Int32.ofInt 1) &&& Int32.ofInt 63)) (5 + 24 * qT g c i) 3 (h.1 (5 + 24 * qT g c i) 3 + Int32.ofInt 1)) (6 + 24 * qT g c i) (((h.1 (5 + 24 * qT g c i) 2 - Int32.ofInt 1) &&& Int32.ofInt 63) &&& Int32.ofInt 63).toNatClampNeg (g.1 230 (8 * c + i))) (Int32.ofNat (qT g c i)) (qc g)) (152 + 12 * c + i) 9 (Int32.ofNat (p + 1)), fl_tot) := by
        rcases W with ⟨y1, y2, y3, y4, y5, y6, y7, y8, y9, y10, w⟩ | ⟨y1, y2, y3, y4, y5, y6, y7, y8, y9, y10, y11, w⟩ | ⟨y1, y2, y3, y4, y5, y6, y7, y8, y9, y10, y11, y12, w⟩ | ⟨y1, y2, y3, y4, y5, y6, y7, y8, y9, y10, y11, y12, y13, y14, w⟩ | ⟨y1, y2, y3, y4, y5, y6, y7, y8, y9, y10, y11, y12, y13, y14, w⟩ | ⟨y1, y2, y3, y4, y5, y6, y7, y8, y9, y10, y11, y12, y13, y14, y15, w⟩ | ⟨y1, y2, y3, y4, y5, y6, y7, y8, y9, y10, y11, y12, y13, y14, y15, w⟩ | ⟨y1, y2, y3, y4, y5, y6, y7, y8, y9, y10, y11, y12, y13, y14, y15, w⟩ | ⟨y1, y2, y3, y4, y5, y6, y7, y8, y9, y10, y11, y12, y13, y14, y15, y16, w⟩ | ⟨y1, y2, y3, y4, y5, y6, y7, y8, y9, y10, y11, y12, y13, y14, y15, y16, w⟩
        · exfalso; omega
        · exfalso; omega
        · rw [w, e1]
        · exfalso; omega
        · exfalso; omega
        · exfalso; omega
        · exfalso; omega
        · exfalso; omega
        · exfalso; omega
        · exfalso; omega
      have wz : Ev d3 169 (452, [some (.ref 223), some (.int (Int32.ofNat c)), some (.int (Int32.ofNat (8 * c + i))), some (.int (Int32.ofNat (qT g c i))), some (.int (g.1 229 (8 * c + i))), some (.int (g.1 230 (8 * c + i))), none], [], fl_setI (fl_setI (pfH hm (Int32.ofNat (qT g c i)) n n) 260 (48 * qT g c i) (g.1 230 (8 * c + i))) 261 (qT g c i) (hm.1 261 (qT g c i) + Int32.ofInt 1), fl_tot) (v3, h3, n3) := by
        rcases Z with ⟨y1, y2, y3, y4, wz⟩ | ⟨y1, y2, y3, y4, y5, y6, y7, y8, wz⟩ | ⟨y1, y2, y3, y4, y5, y6, y7, y8, y9, wz⟩ | ⟨y1, y2, y3, y4, y5, y6, y7, y8, y9, wz⟩ | ⟨y1, y2, y3, y4, y5, y6, y7, y8, wz⟩ | ⟨y1, y2, y3, y4, y5, y6, y7, y8, wz⟩ | ⟨y1, y2, y3, y4, y5, y6, wz⟩ | ⟨y1, y2, y3, y4, y5, wz⟩
        · exfalso; omega
        · exfalso; omega
        · exfalso; omega
        · exfalso; omega
        · exfalso; omega
        · exfalso; omega
        · exact wz
        · exfalso; omega
      clear W Z tb I t3
      have R1 := RRM.cu G (h' := fl_setI (fl_setI (fl_setI h (5 + 24 * qT g c i) 2 ((h.1 (5 + 24 * qT g c i) 2 - Int32.ofInt 1) &&& Int32.ofInt 63)) (5 + 24 * qT g c i) 3 (h.1 (5 + 24 * qT g c i) 3 + Int32.ofInt 1)) (6 + 24 * qT g c i) (((h.1 (5 + 24 * qT g c i) 2 - Int32.ofInt 1) &&& Int32.ofInt 63) &&& Int32.ofInt 63).toNatClampNeg (g.1 230 (8 * c + i))) (hm' := fl_setI (fl_setI (pfH hm (Int32.ofNat (qT g c i)) n n) 260 (48 * qT g c i) (g.1 230 (8 * c + i))) 261 (qT g c i) (hm.1 261 (qT g c i) + Int32.ofInt 1)) (b' := (st : Int) + 1) (pc' := p) (p' := p + 1) (by omega) R ((((KFX.refl _ _ _ _).set _ _ _ (by omega)).set _ _ _ (by omega)).set _ _ _ (by omega)) ((((KFM.refl _ _ _ _).pfH T6 (by omega) (Nat.le_refl _)).set _ _ _ (by omega)).set _ _ _ (by omega)) (((pfH_T hT _).full 260 _ _ (by decide +kernel) (by decide +kernel)).a 261 _ 0 40 (by decide +kernel) (by decide +kernel) (by rw [en, o32 (by omega), i32n (by omega)]; omega)) ?_ ?_ ?_ rfl ?_ ?_ ?_ ?_ (fun j => ?_) (fun j => ?_) ⟨fun z => by omega, fun _ => (TRq.up (by omega) (TRq.putFirst T6 _ tq em (by omega))), fun z => by omega, fun z => by omega⟩ ⟨fun z => by omega, fun z => by omega, fun _ _ => ⟨?_, fun z => ?_⟩, fun z => by omega, fun z => by omega, fun z => by omega⟩ (HLD.next G hc hi hp (by omega))
      · obtain ⟨y, R2⟩ := R1.wr G ⟨none, Or.inl rfl, _, _, _, _, wz⟩
        obtain ⟨y1, y2, y3⟩ := tri y
        subst y2
        exact ⟨_, _, w, e4 y1 y3, R2⟩
      all_goals first | rfl | exact u3 | exact n1 | exact n2 | (simp (disch := omega) only [setI_at, setI_no, sfH_out, pfH_out]; done) | (simp (disch := omega) only [setI_at, setI_no, sfH_out, pfH_out]; first | exact u3 | exact n1 | exact n2) | exact absurd z y9 | (simp (disch := omega) only [setI_at, setI_no, sfH_out, pfH_out] at z; exact absurd z y9)
    · by_cases n0 : n = 0
      · have n9 : (hm.1 261 (qT g c i)).toInt = 0 := by omega
        have w : r = (none, fl_setI (wkH (h) (Int32.ofNat (qT g c i)) (qc g)) (152 + 12 * c + i) 9 (Int32.ofNat (p + 1)), fl_tot) := by
          rcases W with ⟨y1, y2, y3, y4, y5, y6, y7, y8, y9, y10, w⟩ | ⟨y1, y2, y3, y4, y5, y6, y7, y8, y9, y10, y11, w⟩ | ⟨y1, y2, y3, y4, y5, y6, y7, y8, y9, y10, y11, y12, w⟩ | ⟨y1, y2, y3, y4, y5, y6, y7, y8, y9, y10, y11, y12, y13, y14, w⟩ | ⟨y1, y2, y3, y4, y5, y6, y7, y8, y9, y10, y11, y12, y13, y14, w⟩ | ⟨y1, y2, y3, y4, y5, y6, y7, y8, y9, y10, y11, y12, y13, y14, y15, w⟩ | ⟨y1, y2, y3, y4, y5, y6, y7, y8, y9, y10, y11, y12, y13, y14, y15, w⟩ | ⟨y1, y2, y3, y4, y5, y6, y7, y8, y9, y10, y11, y12, y13, y14, y15, w⟩ | ⟨y1, y2, y3, y4, y5, y6, y7, y8, y9, y10, y11, y12, y13, y14, y15, y16, w⟩ | ⟨y1, y2, y3, y4, y5, y6, y7, y8, y9, y10, y11, y12, y13, y14, y15, y16, w⟩
          · exfalso; omega
          · exfalso; omega
          · exfalso; omega
          · exfalso; omega
          · rw [w, e1]
          · exfalso; omega
          · exfalso; omega
          · exfalso; omega
          · exfalso; omega
          · exfalso; omega
        have wz : Ev d3 169 (452, [some (.ref 223), some (.int (Int32.ofNat c)), some (.int (Int32.ofNat (8 * c + i))), some (.int (Int32.ofNat (qT g c i))), some (.int (g.1 229 (8 * c + i))), some (.int (g.1 230 (8 * c + i))), none], [], fl_setI (sfH hm (Int32.ofNat (qT g c i)) (n - 1)) 261 (qT g c i) (hm.1 261 (qT g c i) - Int32.ofInt 0), fl_tot) (v3, h3, n3) := by
          rcases Z with ⟨y1, y2, y3, y4, wz⟩ | ⟨y1, y2, y3, y4, y5, y6, y7, y8, wz⟩ | ⟨y1, y2, y3, y4, y5, y6, y7, y8, y9, wz⟩ | ⟨y1, y2, y3, y4, y5, y6, y7, y8, y9, wz⟩ | ⟨y1, y2, y3, y4, y5, y6, y7, y8, wz⟩ | ⟨y1, y2, y3, y4, y5, y6, y7, y8, wz⟩ | ⟨y1, y2, y3, y4, y5, y6, wz⟩ | ⟨y1, y2, y3, y4, y5, wz⟩
          · exfalso; omega
          · exfalso; omega
          · exfalso; omega
          · exfalso; omega
          · exact wz
          · exfalso; omega
          · exfalso; omega
          · exfalso; omega
        have e0 : fl_setI (sfH hm (Int32.ofNat (qT g c i)) (n - 1)) 261 (qT g c i) (hm.1 261 (qT g c i) - Int32.ofInt 0) = hm := by
          rw [show n = 0 by omega, i32_sub0]
          exact setI_id _ _ _
        rw [e0] at wz
        clear W Z tb I t3
        have R1 := RRM.cu G (h' := h) (hm' := hm) (b' := (st : Int) + 1) (pc' := p) (p' := p + 1) (by omega) R (KFX.refl _ _ _ _) (KFM.refl _ _ _ _) hT ?_ ?_ ?_ rfl ?_ ?_ ?_ ?_ (fun j => ?_) (fun j => ?_) (tc.fr b69.2 (by omega) ⟨fun j => ⟨rfl, rfl, rfl, rfl⟩, fun K j hK h1 h2 => rfl, fun j h1 h2 => rfl, fun K hK => rfl, fun j h1 h2 => rfl⟩) ⟨fun z => by omega, fun z => by omega, fun _ _ => ⟨?_, fun z => ?_⟩, fun z => by omega, fun z => by omega, fun z => by omega⟩ (HLD.next G hc hi hp (by omega))
        · obtain ⟨y, R2⟩ := R1.wr G ⟨none, Or.inl rfl, _, _, _, _, wz⟩
          obtain ⟨y1, y2, y3⟩ := tri y
          subst y2
          exact ⟨_, _, w, e4 y1 y3, R2⟩
        all_goals first | rfl | exact u3 | exact n1 | exact n2 | (simp (disch := omega) only [setI_at, setI_no, sfH_out, pfH_out]; done) | (simp (disch := omega) only [setI_at, setI_no, sfH_out, pfH_out]; first | exact u3 | exact n1 | exact n2) | exact absurd z y9 | (simp (disch := omega) only [setI_at, setI_no, sfH_out, pfH_out] at z; exact absurd z y9)
      · have n9 : 0 < (hm.1 261 (qT g c i)).toInt := by omega
        have w : r = (none, fl_setI (wkH (fl_setI (fl_setI h (5 + 24 * qT g c i) 2 ((h.1 (5 + 24 * qT g c i) 2 + Int32.ofInt 1) &&& Int32.ofInt 63)) (5 + 24 * qT g c i) 3 (h.1 (5 + 24 * qT g c i) 3 - Int32.ofInt 1)) (Int32.ofNat (qT g c i)) (qc g)) (152 + 12 * c + i) 9 (Int32.ofNat (p + 1)), fl_tot) := by
          rcases W with ⟨y1, y2, y3, y4, y5, y6, y7, y8, y9, y10, w⟩ | ⟨y1, y2, y3, y4, y5, y6, y7, y8, y9, y10, y11, w⟩ | ⟨y1, y2, y3, y4, y5, y6, y7, y8, y9, y10, y11, y12, w⟩ | ⟨y1, y2, y3, y4, y5, y6, y7, y8, y9, y10, y11, y12, y13, y14, w⟩ | ⟨y1, y2, y3, y4, y5, y6, y7, y8, y9, y10, y11, y12, y13, y14, w⟩ | ⟨y1, y2, y3, y4, y5, y6, y7, y8, y9, y10, y11, y12, y13, y14, y15, w⟩ | ⟨y1, y2, y3, y4, y5, y6, y7, y8, y9, y10, y11, y12, y13, y14, y15, w⟩ | ⟨y1, y2, y3, y4, y5, y6, y7, y8, y9, y10, y11, y12, y13, y14, y15, w⟩ | ⟨y1, y2, y3, y4, y5, y6, y7, y8, y9, y10, y11, y12, y13, y14, y15, y16, w⟩ | ⟨y1, y2, y3, y4, y5, y6, y7, y8, y9, y10, y11, y12, y13, y14, y15, y16, w⟩
          · exfalso; omega
          · exfalso; omega
          · exfalso; omega
          · rw [w, e1]
          · exfalso; omega
          · exfalso; omega
          · exfalso; omega
          · exfalso; omega
          · exfalso; omega
          · exfalso; omega
        have wz : Ev d3 169 (452, [some (.ref 223), some (.int (Int32.ofNat c)), some (.int (Int32.ofNat (8 * c + i))), some (.int (Int32.ofNat (qT g c i))), some (.int (g.1 229 (8 * c + i))), some (.int (g.1 230 (8 * c + i))), none], [], fl_setI (sfH hm (Int32.ofNat (qT g c i)) (n - 1)) 261 (qT g c i) (hm.1 261 (qT g c i) - Int32.ofInt 1), fl_tot) (v3, h3, n3) := by
          rcases Z with ⟨y1, y2, y3, y4, wz⟩ | ⟨y1, y2, y3, y4, y5, y6, y7, y8, wz⟩ | ⟨y1, y2, y3, y4, y5, y6, y7, y8, y9, wz⟩ | ⟨y1, y2, y3, y4, y5, y6, y7, y8, y9, wz⟩ | ⟨y1, y2, y3, y4, y5, y6, y7, y8, wz⟩ | ⟨y1, y2, y3, y4, y5, y6, y7, y8, wz⟩ | ⟨y1, y2, y3, y4, y5, y6, wz⟩ | ⟨y1, y2, y3, y4, y5, wz⟩
          · exfalso; omega
          · exfalso; omega
          · exfalso; omega
          · exfalso; omega
          · exfalso; omega
          · exact wz
          · exfalso; omega
          · exfalso; omega
        clear W Z tb I t3
        have R1 := RRM.cu G (h' := fl_setI (fl_setI h (5 + 24 * qT g c i) 2 ((h.1 (5 + 24 * qT g c i) 2 + Int32.ofInt 1) &&& Int32.ofInt 63)) (5 + 24 * qT g c i) 3 (h.1 (5 + 24 * qT g c i) 3 - Int32.ofInt 1)) (hm' := fl_setI (sfH hm (Int32.ofNat (qT g c i)) (n - 1)) 261 (qT g c i) (hm.1 261 (qT g c i) - Int32.ofInt 1)) (b' := (st : Int) + 1) (pc' := p) (p' := p + 1) (by omega) R (((KFX.refl _ _ _ _).set _ _ _ (by omega)).set _ _ _ (by omega)) (((KFM.refl _ _ _ _).sfH T6 (by omega)).set _ _ _ (by omega)) ((sfH_T hT _).a 261 _ 0 40 (by decide +kernel) (by decide +kernel) (by rw [en, osub (by omega) (by omega), i32n (by omega)]; omega)) ?_ ?_ ?_ rfl ?_ ?_ ?_ ?_ (fun j => ?_) (fun j => ?_) ⟨fun z => by omega, fun _ => (TRq.up (by omega) (TRq.takeFirst T6 tq em (by omega) (by omega))), fun z => by omega, fun z => by omega⟩ ⟨fun z => by omega, fun z => by omega, fun _ _ => ⟨?_, fun z => ?_⟩, fun z => by omega, fun z => by omega, fun z => by omega⟩ (HLD.next G hc hi hp (by omega))
        · obtain ⟨y, R2⟩ := R1.wr G ⟨none, Or.inl rfl, _, _, _, _, wz⟩
          obtain ⟨y1, y2, y3⟩ := tri y
          subst y2
          exact ⟨_, _, w, e4 y1 y3, R2⟩
        all_goals first | rfl | exact u3 | exact n1 | exact n2 | (simp (disch := omega) only [setI_at, setI_no, sfH_out, pfH_out]; done) | (simp (disch := omega) only [setI_at, setI_no, sfH_out, pfH_out]; first | exact u3 | exact n1 | exact n2) | exact absurd z y9 | (simp (disch := omega) only [setI_at, setI_no, sfH_out, pfH_out] at z; exact absurd z y9)
    · by_cases n0 : n = 0
      · have n9 : (hm.1 261 (qT g c i)).toInt = 0 := by omega
        have w : r = (none, fl_setI (wkH (h) (Int32.ofNat (qT g c i)) (qc g)) (152 + 12 * c + i) 9 (Int32.ofNat (p + 1)), fl_tot) := by
          rcases W with ⟨y1, y2, y3, y4, y5, y6, y7, y8, y9, y10, w⟩ | ⟨y1, y2, y3, y4, y5, y6, y7, y8, y9, y10, y11, w⟩ | ⟨y1, y2, y3, y4, y5, y6, y7, y8, y9, y10, y11, y12, w⟩ | ⟨y1, y2, y3, y4, y5, y6, y7, y8, y9, y10, y11, y12, y13, y14, w⟩ | ⟨y1, y2, y3, y4, y5, y6, y7, y8, y9, y10, y11, y12, y13, y14, w⟩ | ⟨y1, y2, y3, y4, y5, y6, y7, y8, y9, y10, y11, y12, y13, y14, y15, w⟩ | ⟨y1, y2, y3, y4, y5, y6, y7, y8, y9, y10, y11, y12, y13, y14, y15, w⟩ | ⟨y1, y2, y3, y4, y5, y6, y7, y8, y9, y10, y11, y12, y13, y14, y15, w⟩ | ⟨y1, y2, y3, y4, y5, y6, y7, y8, y9, y10, y11, y12, y13, y14, y15, y16, w⟩ | ⟨y1, y2, y3, y4, y5, y6, y7, y8, y9, y10, y11, y12, y13, y14, y15, y16, w⟩
          · exfalso; omega
          · exfalso; omega
          · exfalso; omega
          · exfalso; omega
          · exfalso; omega
          · rw [w, e1]
          · exfalso; omega
          · exfalso; omega
          · exfalso; omega
          · exfalso; omega
        have wz : Ev d3 169 (452, [some (.ref 223), some (.int (Int32.ofNat c)), some (.int (Int32.ofNat (8 * c + i))), some (.int (Int32.ofNat (qT g c i))), some (.int (g.1 229 (8 * c + i))), some (.int (g.1 230 (8 * c + i))), none], [], fl_setI hm 261 (qT g c i) (hm.1 261 (qT g c i) - Int32.ofInt 0), fl_tot) (v3, h3, n3) := by
          rcases Z with ⟨y1, y2, y3, y4, wz⟩ | ⟨y1, y2, y3, y4, y5, y6, y7, y8, wz⟩ | ⟨y1, y2, y3, y4, y5, y6, y7, y8, y9, wz⟩ | ⟨y1, y2, y3, y4, y5, y6, y7, y8, y9, wz⟩ | ⟨y1, y2, y3, y4, y5, y6, y7, y8, wz⟩ | ⟨y1, y2, y3, y4, y5, y6, y7, y8, wz⟩ | ⟨y1, y2, y3, y4, y5, y6, wz⟩ | ⟨y1, y2, y3, y4, y5, wz⟩
          · exfalso; omega
          · exfalso; omega
          · exact wz
          · exfalso; omega
          · exfalso; omega
          · exfalso; omega
          · exfalso; omega
          · exfalso; omega
        have e0 : fl_setI hm 261 (qT g c i) (hm.1 261 (qT g c i) - Int32.ofInt 0) = hm := by
          rw [i32_sub0]
          exact setI_id _ _ _
        rw [e0] at wz
        clear W Z tb I t3
        have R1 := RRM.cu G (h' := h) (hm' := hm) (b' := (st : Int) + 1) (pc' := p) (p' := p + 1) (by omega) R (KFX.refl _ _ _ _) (KFM.refl _ _ _ _) hT ?_ ?_ ?_ rfl ?_ ?_ ?_ ?_ (fun j => ?_) (fun j => ?_) (tc.fr b69.2 (by omega) ⟨fun j => ⟨rfl, rfl, rfl, rfl⟩, fun K j hK h1 h2 => rfl, fun j h1 h2 => rfl, fun K hK => rfl, fun j h1 h2 => rfl⟩) ⟨fun z => by omega, fun z => by omega, fun _ _ => ⟨?_, fun z => ?_⟩, fun z => by omega, fun z => by omega, fun z => by omega⟩ (HLD.next G hc hi hp (by omega))
        · obtain ⟨y, R2⟩ := R1.wr G ⟨none, Or.inl rfl, _, _, _, _, wz⟩
          obtain ⟨y1, y2, y3⟩ := tri y
          subst y2
          exact ⟨_, _, w, e4 y1 y3, R2⟩
        all_goals first | rfl | exact u3 | exact n1 | exact n2 | (simp (disch := omega) only [setI_at, setI_no, sfH_out, pfH_out]; done) | (simp (disch := omega) only [setI_at, setI_no, sfH_out, pfH_out]; first | exact u3 | exact n1 | exact n2) | exact absurd z y9 | (simp (disch := omega) only [setI_at, setI_no, sfH_out, pfH_out] at z; exact absurd z y9)
      · have n9 : 0 < (hm.1 261 (qT g c i)).toInt := by omega
        have w : r = (none, fl_setI (wkH (fl_setI h (5 + 24 * qT g c i) 3 (h.1 (5 + 24 * qT g c i) 3 - Int32.ofInt 1)) (Int32.ofNat (qT g c i)) (qc g)) (152 + 12 * c + i) 9 (Int32.ofNat (p + 1)), fl_tot) := by
          rcases W with ⟨y1, y2, y3, y4, y5, y6, y7, y8, y9, y10, w⟩ | ⟨y1, y2, y3, y4, y5, y6, y7, y8, y9, y10, y11, w⟩ | ⟨y1, y2, y3, y4, y5, y6, y7, y8, y9, y10, y11, y12, w⟩ | ⟨y1, y2, y3, y4, y5, y6, y7, y8, y9, y10, y11, y12, y13, y14, w⟩ | ⟨y1, y2, y3, y4, y5, y6, y7, y8, y9, y10, y11, y12, y13, y14, w⟩ | ⟨y1, y2, y3, y4, y5, y6, y7, y8, y9, y10, y11, y12, y13, y14, y15, w⟩ | ⟨y1, y2, y3, y4, y5, y6, y7, y8, y9, y10, y11, y12, y13, y14, y15, w⟩ | ⟨y1, y2, y3, y4, y5, y6, y7, y8, y9, y10, y11, y12, y13, y14, y15, w⟩ | ⟨y1, y2, y3, y4, y5, y6, y7, y8, y9, y10, y11, y12, y13, y14, y15, y16, w⟩ | ⟨y1, y2, y3, y4, y5, y6, y7, y8, y9, y10, y11, y12, y13, y14, y15, y16, w⟩
          · exfalso; omega
          · exfalso; omega
          · exfalso; omega
          · exfalso; omega
          · exfalso; omega
          · exfalso; omega
          · rw [w, e1]
          · exfalso; omega
          · exfalso; omega
          · exfalso; omega
        have wz : Ev d3 169 (452, [some (.ref 223), some (.int (Int32.ofNat c)), some (.int (Int32.ofNat (8 * c + i))), some (.int (Int32.ofNat (qT g c i))), some (.int (g.1 229 (8 * c + i))), some (.int (g.1 230 (8 * c + i))), none], [], fl_setI hm 261 (qT g c i) (hm.1 261 (qT g c i) - Int32.ofInt 1), fl_tot) (v3, h3, n3) := by
          rcases Z with ⟨y1, y2, y3, y4, wz⟩ | ⟨y1, y2, y3, y4, y5, y6, y7, y8, wz⟩ | ⟨y1, y2, y3, y4, y5, y6, y7, y8, y9, wz⟩ | ⟨y1, y2, y3, y4, y5, y6, y7, y8, y9, wz⟩ | ⟨y1, y2, y3, y4, y5, y6, y7, y8, wz⟩ | ⟨y1, y2, y3, y4, y5, y6, y7, y8, wz⟩ | ⟨y1, y2, y3, y4, y5, y6, wz⟩ | ⟨y1, y2, y3, y4, y5, wz⟩
          · exfalso; omega
          · exfalso; omega
          · exfalso; omega
          · exact wz
          · exfalso; omega
          · exfalso; omega
          · exfalso; omega
          · exfalso; omega
        clear W Z tb I t3
        have R1 := RRM.cu G (h' := fl_setI h (5 + 24 * qT g c i) 3 (h.1 (5 + 24 * qT g c i) 3 - Int32.ofInt 1)) (hm' := fl_setI hm 261 (qT g c i) (hm.1 261 (qT g c i) - Int32.ofInt 1)) (b' := (st : Int) + 1) (pc' := p) (p' := p + 1) (by omega) R ((KFX.refl _ _ _ _).set _ _ _ (by omega)) ((KFM.refl _ _ _ _).set _ _ _ (by omega)) (hT.a 261 _ 0 40 (by decide +kernel) (by decide +kernel) (by rw [en, osub (by omega) (by omega), i32n (by omega)]; omega)) ?_ ?_ ?_ rfl ?_ ?_ ?_ ?_ (fun j => ?_) (fun j => ?_) ⟨fun z => by omega, fun _ => (TRq.up (by omega) (TRq.takeLast tq em (by omega) (by omega))), fun z => by omega, fun z => by omega⟩ ⟨fun z => by omega, fun z => by omega, fun _ _ => ⟨?_, fun z => ?_⟩, fun z => by omega, fun z => by omega, fun z => by omega⟩ (HLD.next G hc hi hp (by omega))
        · obtain ⟨y, R2⟩ := R1.wr G ⟨none, Or.inl rfl, _, _, _, _, wz⟩
          obtain ⟨y1, y2, y3⟩ := tri y
          subst y2
          exact ⟨_, _, w, e4 y1 y3, R2⟩
        all_goals first | rfl | exact u3 | exact n1 | exact n2 | (simp (disch := omega) only [setI_at, setI_no, sfH_out, pfH_out]; done) | (simp (disch := omega) only [setI_at, setI_no, sfH_out, pfH_out]; first | exact u3 | exact n1 | exact n2) | exact absurd z y9 | (simp (disch := omega) only [setI_at, setI_no, sfH_out, pfH_out] at z; exact absurd z y9)
    · have w : r = (none, fl_setI (wkH (fl_setI h (5 + 24 * qT g c i) 4 (h.1 (5 + 24 * qT g c i) 4 + Int32.ofInt 1)) (Int32.ofNat (qT g c i)) (qc g)) (152 + 12 * c + i) 9 (Int32.ofNat (p + 1)), fl_tot) := by
        rcases W with ⟨y1, y2, y3, y4, y5, y6, y7, y8, y9, y10, w⟩ | ⟨y1, y2, y3, y4, y5, y6, y7, y8, y9, y10, y11, w⟩ | ⟨y1, y2, y3, y4, y5, y6, y7, y8, y9, y10, y11, y12, w⟩ | ⟨y1, y2, y3, y4, y5, y6, y7, y8, y9, y10, y11, y12, y13, y14, w⟩ | ⟨y1, y2, y3, y4, y5, y6, y7, y8, y9, y10, y11, y12, y13, y14, w⟩ | ⟨y1, y2, y3, y4, y5, y6, y7, y8, y9, y10, y11, y12, y13, y14, y15, w⟩ | ⟨y1, y2, y3, y4, y5, y6, y7, y8, y9, y10, y11, y12, y13, y14, y15, w⟩ | ⟨y1, y2, y3, y4, y5, y6, y7, y8, y9, y10, y11, y12, y13, y14, y15, w⟩ | ⟨y1, y2, y3, y4, y5, y6, y7, y8, y9, y10, y11, y12, y13, y14, y15, y16, w⟩ | ⟨y1, y2, y3, y4, y5, y6, y7, y8, y9, y10, y11, y12, y13, y14, y15, y16, w⟩
        · exfalso; omega
        · exfalso; omega
        · exfalso; omega
        · exfalso; omega
        · exfalso; omega
        · exfalso; omega
        · exfalso; omega
        · rw [w, e1]
        · exfalso; omega
        · exfalso; omega
      have wz : Ev d3 169 (452, [some (.ref 223), some (.int (Int32.ofNat c)), some (.int (Int32.ofNat (8 * c + i))), some (.int (Int32.ofNat (qT g c i))), some (.int (g.1 229 (8 * c + i))), some (.int (g.1 230 (8 * c + i))), none], [], fl_setI hm 262 (qT g c i) (Int32.ofInt 1), fl_tot) (v3, h3, n3) := by
        rcases Z with ⟨y1, y2, y3, y4, wz⟩ | ⟨y1, y2, y3, y4, y5, y6, y7, y8, wz⟩ | ⟨y1, y2, y3, y4, y5, y6, y7, y8, y9, wz⟩ | ⟨y1, y2, y3, y4, y5, y6, y7, y8, y9, wz⟩ | ⟨y1, y2, y3, y4, y5, y6, y7, y8, wz⟩ | ⟨y1, y2, y3, y4, y5, y6, y7, y8, wz⟩ | ⟨y1, y2, y3, y4, y5, y6, wz⟩ | ⟨y1, y2, y3, y4, y5, wz⟩
        · exfalso; omega
        · exact wz
        · exfalso; omega
        · exfalso; omega
        · exfalso; omega
        · exfalso; omega
        · exfalso; omega
        · exfalso; omega
      clear W Z tb I t3
      have R1 := RRM.cu G (h' := fl_setI h (5 + 24 * qT g c i) 4 (h.1 (5 + 24 * qT g c i) 4 + Int32.ofInt 1)) (hm' := fl_setI hm 262 (qT g c i) (Int32.ofInt 1)) (b' := (st : Int) + 1) (pc' := p) (p' := p + 1) (by omega) R ((KFX.refl _ _ _ _).set _ _ _ (by omega)) ((KFM.refl _ _ _ _).set _ _ _ (by omega)) (hT.a 262 _ 0 1 (by decide +kernel) (by decide +kernel) (by decide)) ?_ ?_ ?_ rfl ?_ ?_ ?_ ?_ (fun j => ?_) (fun j => ?_) ⟨fun z => by omega, fun _ => (TRq.close (by omega) tq), fun z => by omega, fun z => by omega⟩ ⟨fun z => by omega, fun z => by omega, fun _ _ => ⟨?_, fun z => ?_⟩, fun z => by omega, fun z => by omega, fun z => by omega⟩ (HLD.next G hc hi hp (by omega))
      · obtain ⟨y, R2⟩ := R1.wr G ⟨none, Or.inl rfl, _, _, _, _, wz⟩
        obtain ⟨y1, y2, y3⟩ := tri y
        subst y2
        exact ⟨_, _, w, e4 y1 y3, R2⟩
      all_goals first | rfl | exact u3 | exact n1 | exact n2 | (simp (disch := omega) only [setI_at, setI_no, sfH_out, pfH_out]; done) | (simp (disch := omega) only [setI_at, setI_no, sfH_out, pfH_out]; first | exact u3 | exact n1 | exact n2) | exact absurd z y9 | (simp (disch := omega) only [setI_at, setI_no, sfH_out, pfH_out] at z; exact absurd z y9)
  · have n14 : (h.1 (152 + 12 * c + i) 14).toInt = 2 := by rw [n1, if_pos y9]
    have w : r = (none, fl_setI (wkH (h) (Int32.ofNat (qT g c i)) (qc g)) (152 + 12 * c + i) 9 (Int32.ofNat (p + 1)), fl_tot) := by
      rcases W with ⟨y1, y2, y3, y4, y5, y6, y7, y8, y9, y10, w⟩ | ⟨y1, y2, y3, y4, y5, y6, y7, y8, y9, y10, y11, w⟩ | ⟨y1, y2, y3, y4, y5, y6, y7, y8, y9, y10, y11, y12, w⟩ | ⟨y1, y2, y3, y4, y5, y6, y7, y8, y9, y10, y11, y12, y13, y14, w⟩ | ⟨y1, y2, y3, y4, y5, y6, y7, y8, y9, y10, y11, y12, y13, y14, w⟩ | ⟨y1, y2, y3, y4, y5, y6, y7, y8, y9, y10, y11, y12, y13, y14, y15, w⟩ | ⟨y1, y2, y3, y4, y5, y6, y7, y8, y9, y10, y11, y12, y13, y14, y15, w⟩ | ⟨y1, y2, y3, y4, y5, y6, y7, y8, y9, y10, y11, y12, y13, y14, y15, w⟩ | ⟨y1, y2, y3, y4, y5, y6, y7, y8, y9, y10, y11, y12, y13, y14, y15, y16, w⟩ | ⟨y1, y2, y3, y4, y5, y6, y7, y8, y9, y10, y11, y12, y13, y14, y15, y16, w⟩
      · rw [w, e1]
      · exfalso; omega
      · exfalso; omega
      · exfalso; omega
      · exfalso; omega
      · exfalso; omega
      · exfalso; omega
      · exfalso; omega
      · exfalso; omega
      · exfalso; omega
    have wz : Ev d3 169 (452, [some (.ref 223), some (.int (Int32.ofNat c)), some (.int (Int32.ofNat (8 * c + i))), some (.int (Int32.ofNat (qT g c i))), some (.int (g.1 229 (8 * c + i))), some (.int (g.1 230 (8 * c + i))), none], [], hm, fl_tot) (v3, h3, n3) := by
      rcases Z with ⟨y1, y2, y3, y4, wz⟩ | ⟨y1, y2, y3, y4, y5, y6, y7, y8, wz⟩ | ⟨y1, y2, y3, y4, y5, y6, y7, y8, y9, wz⟩ | ⟨y1, y2, y3, y4, y5, y6, y7, y8, y9, wz⟩ | ⟨y1, y2, y3, y4, y5, y6, y7, y8, wz⟩ | ⟨y1, y2, y3, y4, y5, y6, y7, y8, wz⟩ | ⟨y1, y2, y3, y4, y5, y6, wz⟩ | ⟨y1, y2, y3, y4, y5, wz⟩
      · exact wz
      · exfalso; omega
      · exfalso; omega
      · exfalso; omega
      · exfalso; omega
      · exfalso; omega
      · exfalso; omega
      · exfalso; omega
    clear W Z tb I t3
    have R1 := RRM.cu G (h' := h) (hm' := hm) (b' := (st : Int) + 1) (pc' := p) (p' := p + 1) (by omega) R (KFX.refl _ _ _ _) (KFM.refl _ _ _ _) hT ?_ ?_ ?_ rfl ?_ ?_ ?_ ?_ (fun j => ?_) (fun j => ?_) (tc.fr b69.2 (by omega) ⟨fun j => ⟨rfl, rfl, rfl, rfl⟩, fun K j hK h1 h2 => rfl, fun j h1 h2 => rfl, fun K hK => rfl, fun j h1 h2 => rfl⟩) ⟨fun z => by omega, fun z => by omega, fun _ _ => ⟨?_, fun z => ?_⟩, fun z => by omega, fun z => by omega, fun z => by omega⟩ (HLD.next G hc hi hp (by omega))
    · obtain ⟨y, R2⟩ := R1.wr G ⟨none, Or.inl rfl, _, _, _, _, wz⟩
      obtain ⟨y1, y2, y3⟩ := tri y
      subst y2
      exact ⟨_, _, w, e4 y1 y3, R2⟩
    all_goals first | rfl | exact u3 | exact n1 | (simp (disch := omega) only [setI_at, setI_no, sfH_out, pfH_out]; done) | (simp (disch := omega) only [setI_at, setI_no, sfH_out, pfH_out]; first | exact u3 | exact n1) | exact absurd z y9 | (simp (disch := omega) only [setI_at, setI_no, sfH_out, pfH_out] at z; exact absurd z y9)

set_option maxHeartbeats 8000000 in
theorem go_write_o {g h hm : Hp} {st c i p d d2 : Nat} {s : Int32} {r r2 : Option Value × Hp × Nat} (G : GS g) (R : RRM g h hm st c i st (CUn g h hm c i p p p)) (hp : p < stLen (qJ g c i)) (hC : stC (qJ g c i) p = 3) (hk : qK g c i = 5) (e : Ev d 45 (0, [some (.ref 208), some (.ref (148 + 12 * c)), some (.ref (152 + 12 * c + i)), some (.int s), none], [], h, fl_tot) r) (e2 : Ev d2 158 (113, lsM g c i p, [], hm, fl_tot) r2) : GO g st c i p (lsM g c i p) (fun h' hm' => CUn g h' hm' c i (p + 1) p (p + 1)) d2 r r2 := by
  obtain ⟨⟨X, M, S15, K, hT⟩, RT, RO, hc, hi, CK, b1, b2, ⟨u1, u2⟩, u3, u4, u5, u6, u7, u8⟩ := id R
  have c5 := G.c5 hc
  have i8 := G.i8 hc hi
  have T6 := G.T6 hc hi
  have hJ := G.len hc hi
  obtain ⟨p10, hp0, hpl, hcd⟩ := cx G X hc hi (by omega) hp u3 u5
  obtain ⟨eF, eK⟩ := cF G X hc hi
  obtain ⟨s1, s2, s3, s4, s5, s6, s7⟩ := SM.st G M hc hi
  obtain ⟨tc, ow1, ow2⟩ := RT _ (G.T hc hi)
  have I := G.inn hc hi hp
  have tb := G.tb hc hi hp
  have e1 : h.1 (152 + 12 * c + i) 9 + Int32.ofInt 1 = Int32.ofNat (p + 1) := by rw [u3, o32 (by omega)]
  have ex : (Int32.ofNat (8 * c + i)).toNatClampNeg = 8 * c + i := o32c (by omega)
  have ecn : (Int32.ofNat c).toNatClampNeg = c := o32c (by omega)
  have eTn : (Int32.ofNat (qT g c i)).toNatClampNeg = qT g c i := o32c (by omega)
  have b69 := TI.rng hT 69 6 0 40 (by decide +kernel) (by decide) (by decide) T6
  have kg : (g.1 224 (qT g c i)).toInt = 5 := hk
  have eO : (g.1 229 (8 * c + i)).toInt = qO g c i := rfl
  have op1 : 0 ≤ qO g c i ∧ qO g c i ≤ 0 := by
    obtain ⟨-, -, o3, o4⟩ := G.op hc hi
    rw [hk] at o4
    exact ⟨o3, o4⟩
  have hnk : (h.1 1 3).toInt = qc g := by rw [X.2.1.2]; exact G.1.2.2.2
  have hat : (h.1 (148 + 12 * c) 4).toInt = i := by rw [CK.1.1, i32n (by omega)]
  have hw0 : (h.1 (152 + 12 * c + i) 10).toInt = 0 := by rw [u1]; decide
  have kS : (Int32.ofInt (qS g c i p)).toInt = 2 := by rw [I.1, hC]; rfl
  have t3 := tb.2.2.2.2.2.2.2.2 hC
  obtain ⟨-, -, -, -, -, e2⟩ := z_does_write (h := hm) (c := Int32.ofNat c) (x := Int32.ofNat (8 * c + i)) M.1 kS e2
  obtain ⟨d3, v3, h3, n3, e3, e4⟩ := z_c169 e2
  obtain ⟨a, a32, ea, -⟩ := G.key hc hi (by omega)
  have W := y_go_write_once (X.sq (G.c5 hc)) (G.T6 hc hi) (G.c5 hc) (G.i8 hc hi) (X.ak G hc hi) hp0 hpl (by rw [hcd]; exact hC) (by rw [eK]; exact hk) hat hw0 hnk G.1.2.2.1 e
  have Z := z_write_once M.1 (t := Int32.ofNat (qT g c i)) (op := g.1 229 (8 * c + i)) (a := g.1 230 (8 * c + i)) (by rw [ex]; exact s2) (by rw [ex]; exact s5) (by rw [ex]; exact s6) (by rw [eTn, s3]; exact hk) e3
  rw [ea, an31 a32, ownv c5 i8, e1] at W
  rw [eTn, ecn, ea, i32k (by omega) (by omega), ownm c5 i8, s3] at Z
  have p5 := t3.2.1 hk
  obtain ⟨n1, -⟩ := u7.2.2.2.2.2 hk t3.1
  have tk := tc.1 (by omega)
  obtain ⟨to1, to2, to3⟩ := tc.2.2.2 kg
  have c1 := i32_1
  by_cases y9 : (hm.1 250 c).toInt = 0
  · rw [if_neg (fun z => z.2 y9)] at n1
    rcases W with ⟨q1, q2, q3, q4, q5, q6, q7, q8, q9, q10, q11, q12, w⟩ | ⟨q1, q2, q3, q4, q5, q6, q7, q8, q9, q10, q11, q12, w⟩
    · have wz : ∃ cc x1 op1 a1 : Int32, Ev d3 169 (452, [some (.ref 223), some (.int cc), some (.int x1), some (.int (Int32.ofNat (qT g c i))), some (.int op1), some (.int a1), none], [], fl_setI (fl_setI (fl_setI hm 264 (32 * qT g c i + a) (Int32.ofInt 0)) 256 (32 * qT g c i + a) (Int32.ofInt (1000 * (c + 1) + i))) 255 (32 * qT g c i + a) (Int32.ofInt 1), fl_tot) (v3, h3, n3) := by
        rcases Z with ⟨z1, z2, z3, z4, z5, z6, wz⟩ | ⟨z1, z2, z3, z4, z5, z6, z7, wz⟩ | ⟨z1, z2, z3, z4, z5, z6, z7, z8, wz⟩
        · exact absurd y9 z6
        · exact ⟨_, _, _, _, wz⟩
        · exact ⟨_, _, _, _, wz⟩
      have R1 := RRM.cu G (h' := fl_setI (fl_setI (fl_setI (fl_setI h (4 + 24 * qT g c i) 9 (h.1 (4 + 24 * qT g c i) 9 &&& (((Int32.ofInt 1) <<< ((Int32.ofNat a &&& Int32.ofInt 31) &&& 31)) ^^^ (Int32.ofInt (-1))))) (152 + 12 * c + i) 13 (Int32.ofInt (1000 * (c + 1) + i))) (5 + 24 * qT g c i) 1 (h.1 (5 + 24 * qT g c i) 1 ||| ((Int32.ofInt 1) <<< ((Int32.ofNat a &&& Int32.ofInt 31) &&& 31)))) (6 + 24 * qT g c i) a (Int32.ofInt (1000 * (c + 1) + i))) (hm' := fl_setI (fl_setI (fl_setI hm 264 (32 * qT g c i + a) (Int32.ofInt 0)) 256 (32 * qT g c i + a) (Int32.ofInt (1000 * (c + 1) + i))) 255 (32 * qT g c i + a) (Int32.ofInt 1)) (b' := (st : Int) + 1) (pc' := p) (p' := p + 1) (by omega) R (((((KFX.refl _ _ _ _).set _ _ _ (by omega)).set _ _ _ (by omega)).set _ _ _ (by omega)).set _ _ _ (by omega)) ((((KFM.refl _ _ _ _).set _ _ _ (by omega)).set _ _ _ (by omega)).set _ _ _ (by omega)) (((hT.a 264 _ 0 1 (by decide +kernel) (by decide +kernel) (by decide)).full 256 _ _ (by decide +kernel) (by decide +kernel)).a 255 _ 0 1 (by decide +kernel) (by decide +kernel) (by decide)) ?_ ?_ ?_ rfl ?_ ?_ ?_ ?_ (fun j => ?_) (fun j => ?_) ⟨fun _ j hj => ⟨?_, ?_⟩, fun z => by omega, fun z => by omega, fun _ => ⟨fun j hj => ⟨?_, ?_⟩, ?_, ?_⟩⟩ ⟨fun z => by omega, fun z => by omega, fun z => by omega, fun z => by omega, fun z => by omega, fun _ _ => ⟨?_, fun _ z => ?_⟩⟩ (HLD.next G hc hi hp (by omega))
      · obtain ⟨cc, xx, oo, aa, wz⟩ := wz
        obtain ⟨y, R2⟩ := R1.wr G ⟨none, Or.inl rfl, cc, xx, oo, aa, wz⟩
        obtain ⟨y1, y2, y3⟩ := tri y
        subst y2
        exact ⟨_, _, w, e4 y1 y3, R2⟩
      · simp (disch := omega) only [setI_at, setI_no]
      · simp (disch := omega) only [setI_at, setI_no]
      · simp (disch := omega) only [setI_at, setI_no]; exact u3
      · simp (disch := omega) only [setI_at, setI_no]
      · simp (disch := omega) only [setI_at, setI_no]
      · simp (disch := omega) only [setI_at, setI_no]
      · simp (disch := omega) only [setI_at, setI_no]
      · simp (disch := omega) only [setI_at, setI_no]
      · simp (disch := omega) only [setI_at, setI_no]
      · rw [setI_no (by omega), setI_at, hb_or hj a32]
        by_cases y : j = a
        · rw [y, setI_at]
          simp
        · simp (disch := omega) only [setI_at, setI_no]
          simp only [y, decide_false, Bool.or_false]
          exact (tk j hj).1
      · by_cases y : j = a
        · rw [y]
          intro _
          simp (disch := omega) only [setI_at, setI_no]
        · simp (disch := omega) only [setI_at, setI_no]
          exact (tk j hj).2
      · have e9 : (fl_setI (fl_setI (fl_setI (fl_setI h (4 + 24 * qT g c i) 9 (h.1 (4 + 24 * qT g c i) 9 &&& (((Int32.ofInt 1) <<< ((Int32.ofNat a &&& Int32.ofInt 31) &&& 31)) ^^^ (Int32.ofInt (-1))))) (152 + 12 * c + i) 13 (Int32.ofInt (1000 * (c + 1) + i))) (5 + 24 * qT g c i) 1 (h.1 (5 + 24 * qT g c i) 1 ||| ((Int32.ofInt 1) <<< ((Int32.ofNat a &&& Int32.ofInt 31) &&& 31)))) (6 + 24 * qT g c i) a (Int32.ofInt (1000 * (c + 1) + i))).1 (4 + 24 * qT g c i) 9 = h.1 (4 + 24 * qT g c i) 9 &&& (((Int32.ofInt 1) <<< ((Int32.ofNat a &&& Int32.ofInt 31) &&& 31)) ^^^ (Int32.ofInt (-1))) := by simp (disch := omega) only [setI_at, setI_no]
        rw [e9, hb_out hj a32]
        by_cases y : j = a
        · rw [y]
          simp (disch := omega) only [setI_at, setI_no]
          simp
        · simp (disch := omega) only [setI_at, setI_no]
          simp only [y, decide_false, Bool.not_false, Bool.and_true]
          exact (to1 j hj).1
      · simp (disch := omega) only [setI_at, setI_no]
        exact (to1 j hj).2
      · simp (disch := omega) only [setI_at, setI_no]
        exact to2
      · simp (disch := omega) only [setI_at, setI_no]
        exact to3
      · simp (disch := omega) only [setI_at, setI_no]
        rw [if_neg (fun z => z.2 y9)]
        exact n1
      · simp (disch := omega) only [setI_at, setI_no]
    · omega
  · rw [if_pos ⟨by omega, y9⟩] at n1
    rcases W with ⟨q1, q2, q3, q4, q5, q6, q7, q8, q9, q10, q11, q12, w⟩ | ⟨q1, q2, q3, q4, q5, q6, q7, q8, q9, q10, q11, q12, w⟩
    · omega
    · rcases Z with ⟨z1, z2, z3, z4, z5, z6, wz⟩ | ⟨z1, z2, z3, z4, z5, z6, z7, wz⟩ | ⟨z1, z2, z3, z4, z5, z6, z7, z8, wz⟩
      · have R1 := RRM.cu G (h' := fl_setI h (4 + 24 * qT g c i) 9 (h.1 (4 + 24 * qT g c i) 9 &&& (((Int32.ofInt 1) <<< ((Int32.ofNat a &&& Int32.ofInt 31) &&& 31)) ^^^ (Int32.ofInt (-1))))) (hm' := fl_setI hm 264 (32 * qT g c i + a) (Int32.ofInt 0)) (b' := (st : Int) + 1) (pc' := p) (p' := p + 1) (by omega) R ((KFX.refl _ _ _ _).set _ _ _ (by omega)) ((KFM.refl _ _ _ _).set _ _ _ (by omega)) (hT.a 264 _ 0 1 (by decide +kernel) (by decide +kernel) (by decide)) ?_ ?_ ?_ rfl ?_ ?_ ?_ ?_ (fun j => ?_) (fun j => ?_) ⟨fun _ j hj => ⟨?_, ?_⟩, fun z => by omega, fun z => by omega, fun _ => ⟨fun j hj => ⟨?_, ?_⟩, ?_, ?_⟩⟩ ⟨fun z => by omega, fun z => by omega, fun z => by omega, fun z => by omega, fun z => by omega, fun _ _ => ⟨?_, fun _ z => ?_⟩⟩ (HLD.next G hc hi hp (by omega))
        · obtain ⟨y, R2⟩ := R1.wr G ⟨none, Or.inl rfl, _, _, _, _, wz⟩
          obtain ⟨y1, y2, y3⟩ := tri y
          subst y2
          exact ⟨_, _, w, e4 y1 y3, R2⟩
        · simp (disch := omega) only [setI_at, setI_no]
        · simp (disch := omega) only [setI_at, setI_no]
        · simp (disch := omega) only [setI_at, setI_no]; exact u3
        · simp (disch := omega) only [setI_at, setI_no]
        · simp (disch := omega) only [setI_at, setI_no]
        · simp (disch := omega) only [setI_at, setI_no]
        · simp (disch := omega) only [setI_at, setI_no]
        · simp (disch := omega) only [setI_at, setI_no]
        · simp (disch := omega) only [setI_at, setI_no]
        · simp (disch := omega) only [setI_at, setI_no]
          exact (tk j hj).1
        · simp (disch := omega) only [setI_at, setI_no]
          exact (tk j hj).2
        · rw [setI_at, hb_out hj a32]
          by_cases y : j = a
          · rw [y, setI_at]
            simp
          · simp (disch := omega) only [setI_at, setI_no]
            simp only [y, decide_false, Bool.not_false, Bool.and_true]
            exact (to1 j hj).1
        · simp (disch := omega) only [setI_at, setI_no]
          exact (to1 j hj).2
        · simp (disch := omega) only [setI_at, setI_no]
          exact to2
        · simp (disch := omega) only [setI_at, setI_no]
          exact to3
        · simp (disch := omega) only [setI_at, setI_no]
          rw [if_pos ⟨by omega, y9⟩]
          exact n1
        · simp (disch := omega) only [setI_at, setI_no] at z
          exact absurd z y9
      · exact absurd z6 y9
      · exact absurd z6 y9

theorem cwR_T {h : Hp} {c t : Nat} {x op a : Int32} (hT : TInv h) (c5 : c < 5) (t6 : t < 6) : ∀ n, n ≤ 32 → TInv (cwR h (Int32.ofNat c) x (Int32.ofNat t) op a n)
  | 0, _ => hT
  | n + 1, hn => by
    unfold cwR
    rw [i32k (by omega) (by omega), i32k (by omega) (by omega)]
    refine ((cwR_T hT c5 t6 n (by omega)).a 255 _ 0 1 (by decide +kernel) (by decide +kernel) ?_).full 256 _ _ (by decide +kernel) (by decide +kernel)
    split
    · split <;> decide
    · exact TI.rng hT 60 160 0 1 (by decide +kernel) (by decide) (by decide) (by omega)
theorem KFM.cwR {c i t : Nat} {h h' : Hp} {cc : Int32} {x op a : Int32} (t6 : t < 6) (y : KFM c i t h h') : KFM c i t h (cwR h' cc x (Int32.ofNat t) op a 32) := by
  have b : (Int32.ofNat t).toNatClampNeg = t := o32c (by omega)
  have bi : (Int32.ofNat t).toInt = t := i32n (by omega)
  refine y.trans ⟨fun K j z0 z1 z2 z3 z4 z5 z6 z7 z8 z9 => ?_, cwR_2 32⟩
  by_cases y : K = 255
  · subst y
    exact (cwR_lo (by omega) (by omega) (by rw [b]; omega) 32 (Nat.le_refl _)).1
  · by_cases y2 : K = 256
    · subst y2
      exact (cwR_lo (by omega) (by omega) (by rw [b]; omega) 32 (Nat.le_refl _)).2
    · exact cwR_out ⟨y, y2⟩ 32
theorem z_cw416 {d : Nat} {h : Hp} {c x t op a k : Int32} {r : Option Value × Hp × Nat} (e : Ev d 169 (416, [some (.ref 223), some (.int c), some (.int x), some (.int t), some (.int op), some (.int a), some (.int k)], [], h, fl_tot) r) : Ev d 169 (452, [some (.ref 223), some (.int c), some (.int x), some (.int t), some (.int op), some (.int a), some (.int k)], [], h, fl_tot) r := e.bk [((8, [452], 419), 0)] [] (by decide +kernel) trivial rfl

set_option maxHeartbeats 8000000 in
theorem go_write_k {g h hm : Hp} {st c i p d d2 : Nat} {s : Int32} {r r2 : Option Value × Hp × Nat} (G : GS g) (R : RRM g h hm st c i st (CUn g h hm c i p p p)) (hp : p < stLen (qJ g c i)) (hC : stC (qJ g c i) p = 3) (hk : qK g c i = 4) (e : Ev d 45 (0, [some (.ref 208), some (.ref (148 + 12 * c)), some (.ref (152 + 12 * c + i)), some (.int s), none], [], h, fl_tot) r) (e2 : Ev d2 158 (113, lsM g c i p, [], hm, fl_tot) r2) : GO g st c i p (lsM g c i p) (fun h' hm' => CUn g h' hm' c i (p + 1) p (p + 1)) d2 r r2 := by
  obtain ⟨⟨X, M, S15, K, hT⟩, RT, RO, hc, hi, CK, b1, b2, ⟨u1, u2⟩, u3, u4, u5, u6, u7, u8⟩ := id R
  have c5 := G.c5 hc
  have i8 := G.i8 hc hi
  have T6 := G.T6 hc hi
  have hJ := G.len hc hi
  obtain ⟨p10, hp0, hpl, hcd⟩ := cx G X hc hi (by omega) hp u3 u5
  obtain ⟨eF, eK⟩ := cF G X hc hi
  obtain ⟨s1, s2, s3, s4, s5, s6, s7⟩ := SM.st G M hc hi
  obtain ⟨tc, ow1, ow2⟩ := RT _ (G.T hc hi)
  have I := G.inn hc hi hp
  have tb := G.tb hc hi hp
  have e1 : h.1 (152 + 12 * c + i) 9 + Int32.ofInt 1 = Int32.ofNat (p + 1) := by rw [u3, o32 (by omega)]
  have ex : (Int32.ofNat (8 * c + i)).toNatClampNeg = 8 * c + i := o32c (by omega)
  have ecn : (Int32.ofNat c).toNatClampNeg = c := o32c (by omega)
  have eTn : (Int32.ofNat (qT g c i)).toNatClampNeg = qT g c i := o32c (by omega)
  have b69 := TI.rng hT 69 6 0 40 (by decide +kernel) (by decide) (by decide) T6
  have kg : (g.1 224 (qT g c i)).toInt = 4 := hk
  have eO : (g.1 229 (8 * c + i)).toInt = qO g c i := rfl
  have op1 : 0 ≤ qO g c i ∧ qO g c i ≤ 3 := by
    obtain ⟨-, -, o3, o4⟩ := G.op hc hi
    rw [hk] at o4
    exact ⟨o3, o4⟩
  have hnk : (h.1 1 3).toInt = qc g := by rw [X.2.1.2]; exact G.1.2.2.2
  have hat : (h.1 (148 + 12 * c) 4).toInt = i := by rw [CK.1.1, i32n (by omega)]
  have hw0 : (h.1 (152 + 12 * c + i) 10).toInt = 0 := by rw [u1]; decide
  have kS : (Int32.ofInt (qS g c i p)).toInt = 2 := by rw [I.1, hC]; rfl
  have t3 := tb.2.2.2.2.2.2.2.2 hC
  obtain ⟨-, -, -, -, -, e2⟩ := z_does_write (h := hm) (c := Int32.ofNat c) (x := Int32.ofNat (8 * c + i)) M.1 kS e2
  obtain ⟨d3, v3, h3, n3, e3, e4⟩ := z_c169 e2
  have no := t3.2.2.2.1
  have rd2 : rdP (qK g c i) (qO g c i) = 2 := by
    unfold rdP
    rw [hk, if_neg (by omega), if_neg (fun z => no ⟨hk, z.2⟩)]
  obtain ⟨a, a32, ea, -⟩ := G.key hc hi (Or.inr (Or.inr ⟨hk, fun z => no ⟨hk, Or.inr z⟩⟩))
  have W := y_go_write_copies (X.sq (G.c5 hc)) (G.T6 hc hi) (G.c5 hc) (G.i8 hc hi) (X.ak G hc hi) hp0 hpl (by rw [hcd]; exact hC) (by rw [eK]; exact hk) hat hw0 hnk G.1.2.2.1 e
  obtain ⟨-, -, -, -, -, e3⟩ := z_write_copies0 M.1 (t := Int32.ofNat (qT g c i)) (op := g.1 229 (8 * c + i)) (a := g.1 230 (8 * c + i)) (by rw [ex]; exact s2) (by rw [ex]; exact s5) (by rw [ex]; exact s6) (by rw [eTn, s3]; exact hk) e3
  rw [ea] at e3
  obtain ⟨kk, e3⟩ := z_cwr_l (h := hm) M.1 (by rw [i32n (by omega)]; omega) 33 (k := 0) (by decide) (by decide) e3
  rw [ea, an31 a32, e1] at W
  have cI : (Int32.ofNat c).toInt = c := i32n (by omega)
  have tI : (Int32.ofNat (qT g c i)).toInt = qT g c i := i32n (by omega)
  obtain ⟨n1, n2, n3⟩ := u7.2.2.2.2.1 hk t3.1
  have c1 := i32_1
  rcases W with ⟨q1, q2, q3, q4, q5, q6, q7, q8, q9, q10, q11, q12, w⟩ | ⟨q1, q2, q3, q4, q5, q6, q7, q8, q9, q10, q11, q12, w⟩
  · have o0 : qO g c i ≠ 0 := by omega
    have R1 := RRM.cu G (h' := fl_setI (fl_copy (fl_setI h (5 + 24 * qT g c i) 1 (h.1 (150 + 12 * c) 1)) (151 + 12 * c) 0 (6 + 24 * qT g c i) 0 32) (5 + 24 * qT g c i) 1 (h.1 (150 + 12 * c) 1 &&& (((Int32.ofInt 1) <<< ((Int32.ofNat a &&& Int32.ofInt 31) &&& 31)) ^^^ (Int32.ofInt (-1))))) (hm' := cwR hm (Int32.ofNat c) (Int32.ofNat (8 * c + i)) (Int32.ofNat (qT g c i)) (g.1 229 (8 * c + i)) (Int32.ofNat a) 32) (b' := (st : Int) + 1) (pc' := p) (p' := p + 1) (by omega) R ((((KFX.refl _ _ _ _).set _ _ _ (by omega)).copy _ _ _ _ _ (by omega)).set _ _ _ (by omega)) ((KFM.refl _ _ _ _).cwR T6) (cwR_T hT c5 T6 32 (Nat.le_refl _)) ?_ ?_ ?_ rfl ?_ ?_ ?_ ?_ (fun j => ?_) (fun j => ?_) ⟨fun _ j hj => ?_, fun z => by omega, fun z => by omega, fun z => by omega⟩ ⟨fun z => by omega, fun z => by omega, fun z => by omega, fun z => by omega, fun _ _ => ⟨?_, ?_, fun q j hj => ?_⟩, fun z => by omega⟩ (HLD.next G hc hi hp (by omega))
    · obtain ⟨y, R2⟩ := R1.wr G ⟨_, Or.inr ⟨kk, rfl⟩, _, _, _, _, z_cw416 e3⟩
      obtain ⟨y1, y2, y3⟩ := tri y
      subst y2
      exact ⟨_, _, w, e4 y1 y3, R2⟩
    · simp (disch := omega) only [setI_at, setI_no, cpy_no]
    · simp (disch := omega) only [setI_at, setI_no, cpy_no]
    · simp (disch := omega) only [setI_at, setI_no, cpy_no]; exact u3
    · exact cwR_out (by decide) 32
    · exact cwR_out (by decide) 32
    · exact cwR_out (by decide) 32
    · exact cwR_out (by decide) 32
    · simp (disch := omega) only [setI_at, setI_no, cpy_no]
    · exact cwR_out (by decide) 32
    · have A := cwR_at (h := hm) (c := Int32.ofNat c) (x := Int32.ofNat (8 * c + i)) (t := Int32.ofNat (qT g c i)) (op := g.1 229 (8 * c + i)) (a := Int32.ofNat a) (n := j) (by omega) (by omega) (by omega) (by omega) 32 (Nat.le_refl _) hj
      rw [eTn, ecn, o32c (by omega), ex] at A
      rw [A.1, A.2]
      have nj := n3 rd2 j hj
      by_cases y : j = a
      · rw [if_pos y, if_pos y, y]
        rw [setI_at, hb_out a32 a32, if_neg (by omega)]
        refine ⟨by simp, fun z => absurd rfl z⟩
      · rw [if_neg y, if_neg y, setI_at, hb_out hj a32]
        simp (disch := omega) only [setI_at, setI_no, cpy_at, cpy_no]
        simp only [y, decide_false, Bool.not_false, Bool.and_true]
        rw [show 0 + (j - 0) = j by omega]
        exact nj
    · rw [cwR_out (by decide) 32]
      simp (disch := omega) only [setI_at, setI_no, cpy_no]
      exact n1
    · rw [cwR_out (by decide) 32]
      simp (disch := omega) only [setI_at, setI_no, cpy_no]
      exact n2
    · rw [cwR_out (by decide) 32, cwR_out (by decide) 32]
      simp (disch := omega) only [setI_at, setI_no, cpy_no]
      exact n3 q j hj
  · have o0 : qO g c i = 0 := by omega
    have R1 := RRM.cu G (h' := fl_setI (fl_setI (fl_copy (fl_setI h (5 + 24 * qT g c i) 1 (h.1 (150 + 12 * c) 1)) (151 + 12 * c) 0 (6 + 24 * qT g c i) 0 32) (5 + 24 * qT g c i) 1 (h.1 (150 + 12 * c) 1 ||| ((Int32.ofInt 1) <<< ((Int32.ofNat a &&& Int32.ofInt 31) &&& 31)))) (6 + 24 * qT g c i) a (g.1 231 (8 * c + i))) (hm' := cwR hm (Int32.ofNat c) (Int32.ofNat (8 * c + i)) (Int32.ofNat (qT g c i)) (g.1 229 (8 * c + i)) (Int32.ofNat a) 32) (b' := (st : Int) + 1) (pc' := p) (p' := p + 1) (by omega) R (((((KFX.refl _ _ _ _).set _ _ _ (by omega)).copy _ _ _ _ _ (by omega)).set _ _ _ (by omega)).set _ _ _ (by omega)) ((KFM.refl _ _ _ _).cwR T6) (cwR_T hT c5 T6 32 (Nat.le_refl _)) ?_ ?_ ?_ rfl ?_ ?_ ?_ ?_ (fun j => ?_) (fun j => ?_) ⟨fun _ j hj => ?_, fun z => by omega, fun z => by omega, fun z => by omega⟩ ⟨fun z => by omega, fun z => by omega, fun z => by omega, fun z => by omega, fun _ _ => ⟨?_, ?_, fun q j hj => ?_⟩, fun z => by omega⟩ (HLD.next G hc hi hp (by omega))
    · obtain ⟨y, R2⟩ := R1.wr G ⟨_, Or.inr ⟨kk, rfl⟩, _, _, _, _, z_cw416 e3⟩
      obtain ⟨y1, y2, y3⟩ := tri y
      subst y2
      exact ⟨_, _, w, e4 y1 y3, R2⟩
    · simp (disch := omega) only [setI_at, setI_no, cpy_no]
    · simp (disch := omega) only [setI_at, setI_no, cpy_no]
    · simp (disch := omega) only [setI_at, setI_no, cpy_no]; exact u3
    · exact cwR_out (by decide) 32
    · exact cwR_out (by decide) 32
    · exact cwR_out (by decide) 32
    · exact cwR_out (by decide) 32
    · simp (disch := omega) only [setI_at, setI_no, cpy_no]
    · exact cwR_out (by decide) 32
    · have A := cwR_at (h := hm) (c := Int32.ofNat c) (x := Int32.ofNat (8 * c + i)) (t := Int32.ofNat (qT g c i)) (op := g.1 229 (8 * c + i)) (a := Int32.ofNat a) (n := j) (by omega) (by omega) (by omega) (by omega) 32 (Nat.le_refl _) hj
      rw [eTn, ecn, o32c (by omega), ex] at A
      rw [A.1, A.2]
      have nj := n3 rd2 j hj
      by_cases y : j = a
      · rw [if_pos y, if_pos y, y]
        rw [setI_no (by omega), setI_at, setI_at, hb_or a32 a32, if_pos (by omega), s7]
        exact ⟨by simp, fun _ => rfl⟩
      · rw [if_neg y, if_neg y, setI_no (by omega), setI_at, hb_or hj a32]
        simp (disch := omega) only [setI_at, setI_no, cpy_at, cpy_no]
        simp only [y, decide_false, Bool.or_false]
        rw [show 0 + (j - 0) = j by omega]
        exact nj
    · rw [cwR_out (by decide) 32]
      simp (disch := omega) only [setI_at, setI_no, cpy_no]
      exact n1
    · rw [cwR_out (by decide) 32]
      simp (disch := omega) only [setI_at, setI_no, cpy_no]
      exact n2
    · rw [cwR_out (by decide) 32, cwR_out (by decide) 32]
      simp (disch := omega) only [setI_at, setI_no, cpy_no]
      exact n3 q j hj
