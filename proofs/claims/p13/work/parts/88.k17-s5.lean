
set_option maxRecDepth 20000
/-! STEPS ON BOTH SIDES: a MAP reads, writes -/
set_option maxHeartbeats 4000000 in
theorem go_read_m {g h hm : Hp} {st c i p d d2 : Nat} {s : Int32} {r r2 : Option Value × Hp × Nat} (G : GS g) (R : RRM g h hm st c i st (CUn g h hm c i p p p)) (hp : p < stLen (qJ g c i)) (hC : stC (qJ g c i) p = 2) (hk : qK g c i = 0) (hxT : TInv h) (MPh : MP hm) (h42 : 0 ≤ rd 31 42 hm ∧ rd 31 42 hm ≤ 90000) (e : Ev d 45 (0, [some (.ref 208), some (.ref (148 + 12 * c)), some (.ref (152 + 12 * c + i)), some (.int s), none], [], h, fl_tot) r) (e2 : Ev d2 158 (113, lsM g c i p, [], hm, fl_tot) r2) : GO g st c i p (lsM g c i p) (fun h' hm' => CUn g h' hm' c i (p + 1) p (p + 1)) d2 r r2 := by
  obtain ⟨⟨X, M, S15, K, hT⟩, RT, RO, hc, hi, CK, b1, b2, ⟨u1, u2⟩, u3, u4, u5, u6, u7, u8⟩ := id R
  have c5 := G.c5 hc
  have i8 := G.i8 hc hi
  have T6 := G.T6 hc hi
  have hJ := G.len hc hi
  obtain ⟨p10, hp0, hpl, hcd⟩ := cx G X hc hi (by omega) hp u3 u5
  obtain ⟨eF, eK⟩ := cF G X hc hi
  obtain ⟨s1, s2, s3, s4, s5, s6, s7⟩ := SM.st G M hc hi
  obtain ⟨tc, ow1, ow2⟩ := RT _ (G.T hc hi)
  have I := G.inn hc hi hp
  have tb := G.tb hc hi hp
  have e1 : h.1 (152 + 12 * c + i) 9 + Int32.ofInt 1 = Int32.ofNat (p + 1) := by rw [u3, o32 (by omega)]
  have ex : (Int32.ofNat (8 * c + i)).toNatClampNeg = 8 * c + i := o32c (by omega)
  have ecn : (Int32.ofNat c).toNatClampNeg = c := o32c (by omega)
  have eTn : (Int32.ofNat (qT g c i)).toNatClampNeg = qT g c i := o32c (by omega)
  have b69 := TI.rng hT 69 6 0 40 (by decide +kernel) (by decide) (by decide) T6
  have kg : (g.1 224 (qT g c i)).toInt = 0 := hk
  have eO : (g.1 229 (8 * c + i)).toInt = qO g c i := rfl
  have c1 := i32_1
  have c0 := i32_0
  obtain ⟨a, a32, ea, -⟩ := G.key hc hi (Or.inl hk)
  have hbi := hbS (x := h.1 (5 + 24 * qT g c i) 1) a32
  have tk := tc.1 (by omega)
  have ck := ckey a32
  have hk2 : (hm.1 224 (qT g c i)).toInt = 0 := by rw [s3]; exact hk
  have kS : (Int32.ofInt (qS g c i p)).toInt = 1 := by rw [I.1, hC]; rfl
  obtain ⟨m1, em1, -, mF⟩ := x_mv hxT T6 ck.2
  obtain ⟨m2, em2, mT, zF, z55, z56⟩ := z_mv hT T6 a32 MPh hk2 h42
  have zK : ∀ K j : Nat, 223 ≤ K → ¬ (257 ≤ K ∧ K ≤ 259) → ¬ (266 ≤ K ∧ K ≤ 270) → ¬ (K = 223 ∧ j = 42) → m2.1 K j = hm.1 K j := fun K j h1 h2 h3 h4 => by
    by_cases y : K = 255
    · rw [y]; exact z55 j
    · by_cases y2 : K = 256
      · rw [y2]; exact z56 j
      · exact zF.1 K j h1 (by omega) h3 h4
  have W := y_go_read_map (nk := 0) (m1 := m1) (X.sq (G.c5 hc)) (G.T6 hc hi) (G.c5 hc) (G.i8 hc hi) (X.ak G hc hi) hp0 hpl (by rw [hcd]; exact hC) (by rw [eK]; exact hk) (by rw [ea]; exact em1) mF e
  obtain ⟨-, -, -, e2⟩ := z_does_read (h := hm) (c := Int32.ofNat c) (x := Int32.ofNat (8 * c + i)) M.1 kS e2
  obtain ⟨d3, v3, h3, n3, e3, e4⟩ := z_c161 e2
  have Z := z_read_map M.1 (t := Int32.ofNat (qT g c i)) (m2 := m2) (op := g.1 229 (8 * c + i)) (a := g.1 230 (8 * c + i)) (by rw [ex]; exact s2) (by rw [ex]; exact s5) (by rw [ex]; exact s6) (by rw [eTn]; exact hk2) (by rw [ea]; exact em2) zF e3
  rw [ea, an31 a32] at W
  rw [eTn, ecn, ea, i32k (by omega) (by omega)] at Z
  have b55 : 0 ≤ (m2.1 255 (32 * qT g c i + a)).toInt ∧ (m2.1 255 (32 * qT g c i + a)).toInt ≤ 1 := TI.rng mT 63 192 0 1 (by decide +kernel) (by decide) (by decide) (i := 32 * qT g c i + a) (by omega)
  have tka := tk a a32
  by_cases yA : (m2.1 255 (32 * qT g c i + a)).toInt = 0
  · have hb0 : ((ushr (h.1 (5 + 24 * qT g c i) 1) (Int32.ofNat a &&& Int32.ofInt 31)) &&& Int32.ofInt 1).toInt = 0 := hbi.mpr (fun z => tka.1.mp z (by rw [← z55]; exact yA))
    clear hbi tka
    by_cases o3 : qO g c i = 3
    · rcases W with ⟨q1, q2, q3, q4, q5, q6, q7, q8, q9, q10, q11, q12, w⟩ | ⟨q1, q2, q3, q4, q5, q6, q7, q8, q9, q10, q11, q12, w⟩ | ⟨q1, q2, q3, q4, q5, q6, q7, q8, q9, q10, q11, q12, w⟩ | ⟨q1, q2, q3, q4, q5, q6, q7, q8, q9, q10, q11, q12, w⟩ | ⟨q1, q2, q3, q4, q5, q6, q7, q8, q9, q10, q11, q12, w⟩ | ⟨q1, q2, q3, q4, q5, q6, q7, q8, q9, q10, q11, q12, w⟩ | ⟨q1, q2, q3, q4, q5, q6, q7, q8, q9, q10, q11, q12, w⟩ | ⟨q1, q2, q3, q4, q5, q6, q7, q8, q9, q10, q11, q12, w⟩
      · exfalso; omega
      · clear q1 q2 q3 q4 q5 q6 q7 q8 q9 q10 q11 q12
        rcases Z with ⟨z1, z2, wz⟩ | ⟨z1, z2, wz⟩
        · clear z1 z2 tb I
          obtain ⟨y1, y2, y3⟩ := tri wz
          subst y2
          rw [e1] at w
          refine ⟨_, _, w, e4 y1 y3, RRM.cu G (b' := (st : Int) + 1) (by omega) R (((((KFX.opm mF).set _ _ _ (by omega)).set _ _ _ (by omega)).set _ _ _ (by omega)).set _ _ _ (by omega)) (((KFM.mf2 zF fun j _ => ⟨z55 j, z56 j⟩).set _ _ _ (by omega)).set _ _ _ (by omega)) ((mT.a 247 _ 0 1 (by decide +kernel) (by decide +kernel) b55).full 248 _ _ (by decide +kernel) (by decide +kernel)) ?_ ?_ ?_ (mF.2 _ _ (by omega)) ?_ ?_ ?_ ?_ (fun j => ?_) (fun j => ?_) (tc.fr b69.2 (by omega) ⟨fun j => ⟨?_, ?_, ?_, ?_⟩, fun K j hK h1 h2 => ?_, fun j h1 h2 => ?_, fun K hK => ?_, fun j h1 h2 => ?_⟩) ⟨fun _ _ => ⟨?_, ?_⟩, fun z => by omega, fun z => by omega, fun z => by omega, fun z => by omega, fun z => by omega⟩ (HLD.next G hc hi hp (by omega))⟩
          all_goals first | (simp (disch := omega) only [setI_at, setI_no]; done) | (simp (disch := omega) only [setI_at, setI_no]; first | exact mF.1 _ _ (by omega) | exact zK _ _ (by omega) (by omega) (by omega) (by omega) | (rw [if_pos (Or.inl o3)]; decide))
        · exfalso; omega
      · exfalso; omega
      · exfalso; omega
      · exfalso; omega
      · exfalso; omega
      · exfalso; omega
      · exfalso; omega
    · rcases W with ⟨q1, q2, q3, q4, q5, q6, q7, q8, q9, q10, q11, q12, w⟩ | ⟨q1, q2, q3, q4, q5, q6, q7, q8, q9, q10, q11, q12, w⟩ | ⟨q1, q2, q3, q4, q5, q6, q7, q8, q9, q10, q11, q12, w⟩ | ⟨q1, q2, q3, q4, q5, q6, q7, q8, q9, q10, q11, q12, w⟩ | ⟨q1, q2, q3, q4, q5, q6, q7, q8, q9, q10, q11, q12, w⟩ | ⟨q1, q2, q3, q4, q5, q6, q7, q8, q9, q10, q11, q12, w⟩ | ⟨q1, q2, q3, q4, q5, q6, q7, q8, q9, q10, q11, q12, w⟩ | ⟨q1, q2, q3, q4, q5, q6, q7, q8, q9, q10, q11, q12, w⟩
      · clear q1 q2 q3 q4 q5 q6 q7 q8 q9 q10 q11 q12
        rcases Z with ⟨z1, z2, wz⟩ | ⟨z1, z2, wz⟩
        · clear z1 z2 tb I
          obtain ⟨y1, y2, y3⟩ := tri wz
          subst y2
          rw [e1] at w
          refine ⟨_, _, w, e4 y1 y3, RRM.cu G (b' := (st : Int) + 1) (by omega) R ((((KFX.opm mF).set _ _ _ (by omega)).set _ _ _ (by omega)).set _ _ _ (by omega)) (((KFM.mf2 zF fun j _ => ⟨z55 j, z56 j⟩).set _ _ _ (by omega)).set _ _ _ (by omega)) ((mT.a 247 _ 0 1 (by decide +kernel) (by decide +kernel) b55).full 248 _ _ (by decide +kernel) (by decide +kernel)) ?_ ?_ ?_ (mF.2 _ _ (by omega)) ?_ ?_ ?_ ?_ (fun j => ?_) (fun j => ?_) (tc.fr b69.2 (by omega) ⟨fun j => ⟨?_, ?_, ?_, ?_⟩, fun K j hK h1 h2 => ?_, fun j h1 h2 => ?_, fun K hK => ?_, fun j h1 h2 => ?_⟩) ⟨fun _ _ => ⟨?_, ?_⟩, fun z => by omega, fun z => by omega, fun z => by omega, fun z => by omega, fun z => by omega⟩ (HLD.next G hc hi hp (by omega))⟩
          all_goals first | (simp (disch := omega) only [setI_at, setI_no]; done) | (simp (disch := omega) only [setI_at, setI_no]; first | exact mF.1 _ _ (by omega) | exact zK _ _ (by omega) (by omega) (by omega) (by omega) | (rw [if_neg (fun q => q.elim o3 (fun w => w yA))]; decide))
        · exfalso; omega
      · exfalso; omega
      · exfalso; omega
      · exfalso; omega
      · exfalso; omega
      · exfalso; omega
      · exfalso; omega
      · exfalso; omega
  · have hb0 : ((ushr (h.1 (5 + 24 * qT g c i) 1) (Int32.ofNat a &&& Int32.ofInt 31)) &&& Int32.ofInt 1).toInt ≠ 0 := fun z => hbi.mp z (tka.1.mpr (by rw [← z55]; exact yA))
    have nv : h.1 (6 + 24 * qT g c i) a = m2.1 256 (32 * qT g c i + a) := by
      rw [z56]
      exact tka.2 (by rw [← z55]; exact yA)
    clear hbi tka
    by_cases o3 : qO g c i = 3
    · rcases W with ⟨q1, q2, q3, q4, q5, q6, q7, q8, q9, q10, q11, q12, w⟩ | ⟨q1, q2, q3, q4, q5, q6, q7, q8, q9, q10, q11, q12, w⟩ | ⟨q1, q2, q3, q4, q5, q6, q7, q8, q9, q10, q11, q12, w⟩ | ⟨q1, q2, q3, q4, q5, q6, q7, q8, q9, q10, q11, q12, w⟩ | ⟨q1, q2, q3, q4, q5, q6, q7, q8, q9, q10, q11, q12, w⟩ | ⟨q1, q2, q3, q4, q5, q6, q7, q8, q9, q10, q11, q12, w⟩ | ⟨q1, q2, q3, q4, q5, q6, q7, q8, q9, q10, q11, q12, w⟩ | ⟨q1, q2, q3, q4, q5, q6, q7, q8, q9, q10, q11, q12, w⟩
      · exfalso; omega
      · exfalso; omega
      · exfalso; omega
      · exfalso; omega
      · exfalso; omega
      · exfalso; omega
      · exfalso; omega
      · clear q1 q2 q3 q4 q5 q6 q7 q8 q9 q10 q11 q12
        rcases Z with ⟨z1, z2, wz⟩ | ⟨z1, z2, wz⟩
        · exfalso; omega
        · clear z1 z2 tb I
          obtain ⟨y1, y2, y3⟩ := tri wz
          subst y2
          rw [e1] at w
          refine ⟨_, _, w, e4 y1 y3, RRM.cu G (b' := (st : Int) + 1) (by omega) R (((((KFX.opm mF).set _ _ _ (by omega)).set _ _ _ (by omega)).set _ _ _ (by omega)).set _ _ _ (by omega)) (((KFM.mf2 zF fun j _ => ⟨z55 j, z56 j⟩).set _ _ _ (by omega)).set _ _ _ (by omega)) ((mT.a 247 _ 0 1 (by decide +kernel) (by decide +kernel) b55).full 248 _ _ (by decide +kernel) (by decide +kernel)) ?_ ?_ ?_ (mF.2 _ _ (by omega)) ?_ ?_ ?_ ?_ (fun j => ?_) (fun j => ?_) (tc.fr b69.2 (by omega) ⟨fun j => ⟨?_, ?_, ?_, ?_⟩, fun K j hK h1 h2 => ?_, fun j h1 h2 => ?_, fun K hK => ?_, fun j h1 h2 => ?_⟩) ⟨fun _ _ => ⟨?_, ?_⟩, fun z => by omega, fun z => by omega, fun z => by omega, fun z => by omega, fun z => by omega⟩ (HLD.next G hc hi hp (by omega))⟩
          all_goals first | (simp (disch := omega) only [setI_at, setI_no]; done) | (simp (disch := omega) only [setI_at, setI_no]; first | exact mF.1 _ _ (by omega) | exact zK _ _ (by omega) (by omega) (by omega) (by omega) | exact nv | (rw [if_pos (Or.inl o3)]; decide))
    · rcases W with ⟨q1, q2, q3, q4, q5, q6, q7, q8, q9, q10, q11, q12, w⟩ | ⟨q1, q2, q3, q4, q5, q6, q7, q8, q9, q10, q11, q12, w⟩ | ⟨q1, q2, q3, q4, q5, q6, q7, q8, q9, q10, q11, q12, w⟩ | ⟨q1, q2, q3, q4, q5, q6, q7, q8, q9, q10, q11, q12, w⟩ | ⟨q1, q2, q3, q4, q5, q6, q7, q8, q9, q10, q11, q12, w⟩ | ⟨q1, q2, q3, q4, q5, q6, q7, q8, q9, q10, q11, q12, w⟩ | ⟨q1, q2, q3, q4, q5, q6, q7, q8, q9, q10, q11, q12, w⟩ | ⟨q1, q2, q3, q4, q5, q6, q7, q8, q9, q10, q11, q12, w⟩
      · exfalso; omega
      · exfalso; omega
      · exfalso; omega
      · exfalso; omega
      · exfalso; omega
      · exfalso; omega
      · clear q1 q2 q3 q4 q5 q6 q7 q8 q9 q10 q11 q12
        rcases Z with ⟨z1, z2, wz⟩ | ⟨z1, z2, wz⟩
        · exfalso; omega
        · clear z1 z2 tb I
          obtain ⟨y1, y2, y3⟩ := tri wz
          subst y2
          rw [e1] at w
          refine ⟨_, _, w, e4 y1 y3, RRM.cu G (b' := (st : Int) + 1) (by omega) R ((((KFX.opm mF).set _ _ _ (by omega)).set _ _ _ (by omega)).set _ _ _ (by omega)) (((KFM.mf2 zF fun j _ => ⟨z55 j, z56 j⟩).set _ _ _ (by omega)).set _ _ _ (by omega)) ((mT.a 247 _ 0 1 (by decide +kernel) (by decide +kernel) b55).full 248 _ _ (by decide +kernel) (by decide +kernel)) ?_ ?_ ?_ (mF.2 _ _ (by omega)) ?_ ?_ ?_ ?_ (fun j => ?_) (fun j => ?_) (tc.fr b69.2 (by omega) ⟨fun j => ⟨?_, ?_, ?_, ?_⟩, fun K j hK h1 h2 => ?_, fun j h1 h2 => ?_, fun K hK => ?_, fun j h1 h2 => ?_⟩) ⟨fun _ _ => ⟨?_, ?_⟩, fun z => by omega, fun z => by omega, fun z => by omega, fun z => by omega, fun z => by omega⟩ (HLD.next G hc hi hp (by omega))⟩
          all_goals first | (simp (disch := omega) only [setI_at, setI_no]; done) | (simp (disch := omega) only [setI_at, setI_no]; first | exact mF.1 _ _ (by omega) | exact zK _ _ (by omega) (by omega) (by omega) (by omega) | exact nv | (rw [if_pos (Or.inr yA)]; decide))
      · exfalso; omega

theorem RRM.mapw {g h hm H HM : Hp} {st c i p : Nat} (G : GS g) (R : RRM g h hm st c i st (CUn g h hm c i p p p)) (hp : p < stLen (qJ g c i)) (hC : stC (qJ g c i) p = 3) (hk : qK g c i = 0) (x : KFX c i (qT g c i) h H) (m : KFM c i (qT g c i) hm HM) (tm : TInv HM) (a : ∀ k : Nat, k ≠ 13 → H.1 (152 + 12 * c + i) k = h.1 (152 + 12 * c + i) k) (r7 : H.2 (152 + 12 * c + i) 7 = h.2 (152 + 12 * c + i) 7) (b : ∀ K j : Nat, 223 ≤ K → K ≠ 255 → K ≠ 256 → ¬ (257 ≤ K ∧ K ≤ 259) → ¬ (266 ≤ K ∧ K ≤ 270) → ¬ (K = 248 ∧ j = c) → ¬ (K = 223 ∧ j = 42) → HM.1 K j = hm.1 K j) (n13 : H.1 (152 + 12 * c + i) 13 = HM.1 248 c) (o1 : ∀ j : Nat, H.1 (8 + 24 * qT g c i) j = h.1 (8 + 24 * qT g c i) j) (bits : TRk H HM (qT g c i)) : RRM g H HM st c i (st + 1) (CUn g H HM c i p p (p + 1)) := by
  obtain ⟨⟨X, M, S15, K, hT⟩, RT, RO, hc, hi, CK, b1, b2, ⟨u1, u2⟩, u3, u4, u5, u6, u7, u8⟩ := id R
  have t3 := (G.tb hc hi hp).2.2.2.2.2.2.2.2 hC
  have kg : (g.1 224 (qT g c i)).toInt = 0 := hk
  obtain ⟨-, n14⟩ := u7.1 hk t3.1
  refine RRM.cu G (b' := (st : Int) + 1) (by omega) R x m tm (a 10 (by decide)) (a 12 (by decide)) ((a 9 (by decide)).trans u3) r7 (b _ _ (by decide) (by decide) (by decide) (by omega) (by omega) (by omega) (by omega)) (b _ _ (by decide) (by decide) (by decide) (by omega) (by omega) (by omega) (by omega)) (b _ _ (by decide) (by decide) (by decide) (by omega) (by omega) (by omega) (by omega)) (b _ _ (by decide) (by decide) (by decide) (by omega) (by omega) (by omega) (by omega)) o1 (fun j => b _ _ (by decide) (by decide) (by decide) (by omega) (by omega) (by omega) (by omega)) ⟨fun _ => bits, fun z => by omega, fun z => by omega, fun z => by omega⟩ ⟨fun _ _ => ⟨n13, ?_⟩, fun z => by omega, fun z => by omega, fun z => by omega, fun z => by omega, fun z => by omega⟩ (HLD.next G hc hi hp (by omega))
  rw [a 14 (by decide), b 247 c (by decide) (by decide) (by decide) (by omega) (by omega) (by omega) (by omega)]
  exact n14
theorem tic13 {c i : Nat} (hc : c < 5) (hi : i < 8) : tic (152 + 12 * c + i) 13 (-2147483648) 2147483647 = true := List.all_eq_true.mp (List.all_eq_true.mp (show ((List.range 5).all fun c => (List.range 8).all fun i => tic (152 + 12 * c + i) 13 (-2147483648) 2147483647) = true by decide +kernel) c (List.mem_range.mpr hc)) i (List.mem_range.mpr hi)

theorem go_write_m0 {g h hm : Hp} {st c i p d d2 : Nat} {s : Int32} {r r2 : Option Value × Hp × Nat} (G : GS g) (R : RRM g h hm st c i st (CUn g h hm c i p p p)) (hp : p < stLen (qJ g c i)) (hC : stC (qJ g c i) p = 3) (hk : qK g c i = 0) (ho : qO g c i = 0) (hxT : TInv h) (MPh : MP hm) (h42 : 0 ≤ rd 31 42 hm ∧ rd 31 42 hm ≤ 90000) (e : Ev d 45 (0, [some (.ref 208), some (.ref (148 + 12 * c)), some (.ref (152 + 12 * c + i)), some (.int s), none], [], h, fl_tot) r) (e2 : Ev d2 158 (113, lsM g c i p, [], hm, fl_tot) r2) : GO g st c i p (lsM g c i p) (fun h' hm' => CUn g h' hm' c i (p + 1) p (p + 1)) d2 r r2 := by
  obtain ⟨⟨X, M, S15, K, hT⟩, RT, RO, hc, hi, CK, b1, b2, ⟨u1, u2⟩, u3, u4, u5, u6, u7, u8⟩ := id R
  have c5 := G.c5 hc
  have i8 := G.i8 hc hi
  have T6 := G.T6 hc hi
  have hJ := G.len hc hi
  obtain ⟨p10, hp0, hpl, hcd⟩ := cx G X hc hi (by omega) hp u3 u5
  obtain ⟨eF, eK⟩ := cF G X hc hi
  obtain ⟨s1, s2, s3, s4, s5, s6, s7⟩ := SM.st G M hc hi
  obtain ⟨tc, ow1, ow2⟩ := RT _ (G.T hc hi)
  have I := G.inn hc hi hp
  have tb := G.tb hc hi hp
  have e1 : h.1 (152 + 12 * c + i) 9 + Int32.ofInt 1 = Int32.ofNat (p + 1) := by rw [u3, o32 (by omega)]
  have ex : (Int32.ofNat (8 * c + i)).toNatClampNeg = 8 * c + i := o32c (by omega)
  have ecn : (Int32.ofNat c).toNatClampNeg = c := o32c (by omega)
  have eTn : (Int32.ofNat (qT g c i)).toNatClampNeg = qT g c i := o32c (by omega)
  have b69 := TI.rng hT 69 6 0 40 (by decide +kernel) (by decide) (by decide) T6
  have kg : (g.1 224 (qT g c i)).toInt = 0 := hk
  have eO : (g.1 229 (8 * c + i)).toInt = qO g c i := rfl
  have c1 := i32_1
  have c0 := i32_0
  obtain ⟨a, a32, ea, -⟩ := G.key hc hi (Or.inl hk)
  have hbi := hbS (x := h.1 (5 + 24 * qT g c i) 1) a32
  have tk := tc.1 (by omega)
  have ck := ckey a32
  have hk2 : (hm.1 224 (qT g c i)).toInt = 0 := by rw [s3]; exact hk
  have hnk : (h.1 1 3).toInt = qc g := by rw [X.2.1.2]; exact G.1.2.2.2
  have hat : (h.1 (148 + 12 * c) 4).toInt = i := by rw [CK.1.1, i32n (by omega)]
  have hw0 : (h.1 (152 + 12 * c + i) 10).toInt = 0 := by rw [u1]; decide
  have kS : (Int32.ofInt (qS g c i p)).toInt = 2 := by rw [I.1, hC]; rfl
  have t3 := tb.2.2.2.2.2.2.2.2 hC
  have n13 := (u7.1 hk t3.1).1
  obtain ⟨m1, em1, -, mF⟩ := x_ad (k := (((Int32.ofNat a) >>> ((Int32.ofInt 2) &&& 31)) &&& (Int32.ofInt 7))) hxT T6 ck.2 ck.1
  obtain ⟨m2, em2, mT, zF, z55, z56⟩ := z_pu (g.1 231 (8 * c + i)) hT T6 a32 MPh M.1 hk2 h42
  have W := y_go_write_map0 (m1 := m1) (X.sq (G.c5 hc)) (G.T6 hc hi) (G.c5 hc) (G.i8 hc hi) (X.ak G hc hi) hp0 hpl (by rw [hcd]; exact hC) (by rw [eK]; exact hk) hat hw0 hnk G.1.2.2.1 ho (by rw [ea]; exact em1) mF e
  obtain ⟨-, -, -, -, -, e2⟩ := z_does_write (h := hm) (c := Int32.ofNat c) (x := Int32.ofNat (8 * c + i)) M.1 kS e2
  obtain ⟨d3, v3, h3, n3, e3, e4⟩ := z_c169 e2
  obtain ⟨-, -, -, -, wz⟩ := z_write_map0 M.1 (t := Int32.ofNat (qT g c i)) (m2 := m2) (op := g.1 229 (8 * c + i)) (a := g.1 230 (8 * c + i)) (by rw [ex]; exact s2) (by rw [ex]; exact s5) (by rw [ex]; exact s6) (by rw [eTn]; exact hk2) ho (by rw [ea, ex, s7]; exact em2) zF e3
  rw [ecn] at wz
  rw [ea, an31 a32, e1] at W
  rcases W with ⟨q1, q2, q3, q4, q5, q6, q7, q8, q9, q10, q11, q12, q13, w⟩ | ⟨q1, q2, q3, q4, q5, q6, q7, q8, q9, q10, q11, q12, q13, w⟩
  · clear tb I t3
    have R1 := RRM.mapw (H := fl_setI (fl_setI m1 (5 + 24 * qT g c i) 1 (h.1 (5 + 24 * qT g c i) 1 ||| ((Int32.ofInt 1) <<< ((Int32.ofNat a &&& Int32.ofInt 31) &&& 31)))) (6 + 24 * qT g c i) a (g.1 231 (8 * c + i))) (HM := fl_setI m2 248 c (hm.1 248 c)) G R hp hC hk (((KFX.opm mF).set _ _ _ (by omega)).set _ _ _ (by omega)) ((KFM.mf2 zF fun j hj => ⟨by rw [z55, if_neg (by omega)], by rw [z56, if_neg (by omega)]⟩).set _ _ _ (by omega)) (mT.full 248 _ _ (by decide +kernel) (by decide +kernel)) (fun k hk => by rw [setI_no (by omega), setI_no (by omega), mF.1 _ _ (by omega)]) (mF.2 _ _ (by omega)) (fun K j h1 h2 h3 h4 h5 h6 h7 => by rw [setI_no (by omega)]; exact zF.1 K j h1 (by omega) (by omega) h7) (by rw [setI_no (by omega), setI_no (by omega), mF.1 _ _ (by omega), setI_at]; exact n13) (fun j => by rw [setI_no (by omega), setI_no (by omega), mF.1 _ _ (by omega)]) (fun j hj => by
      rw [setI_no (by omega), setI_at, hb_or hj a32, setI_no (h := m2) (by omega), setI_no (h := m2) (by omega), z55, z56]
      by_cases y : j = a
      · rw [if_pos (by omega), if_pos (by omega), y, setI_at]
        exact ⟨by simp [i32_1], fun _ => rfl⟩
      · rw [if_neg (by omega), if_neg (by omega), setI_no (by omega), setI_no (by omega), mF.1 _ _ (by omega)]
        simp only [y, decide_false, Bool.or_false]
        exact tk j hj)
    obtain ⟨y, R2⟩ := R1.wr G ⟨none, Or.inl rfl, _, _, _, _, wz⟩
    obtain ⟨y1, y2, y3⟩ := tri y
    subst y2
    exact ⟨_, _, w, e4 y1 y3, R2⟩
  · clear tb I t3
    have R1 := RRM.mapw (H := fl_setI (fl_setI h (5 + 24 * qT g c i) 1 (h.1 (5 + 24 * qT g c i) 1 ||| ((Int32.ofInt 1) <<< ((Int32.ofNat a &&& Int32.ofInt 31) &&& 31)))) (6 + 24 * qT g c i) a (g.1 231 (8 * c + i))) (HM := fl_setI m2 248 c (hm.1 248 c)) G R hp hC hk (((KFX.refl _ _ _ _).set _ _ _ (by omega)).set _ _ _ (by omega)) ((KFM.mf2 zF fun j hj => ⟨by rw [z55, if_neg (by omega)], by rw [z56, if_neg (by omega)]⟩).set _ _ _ (by omega)) (mT.full 248 _ _ (by decide +kernel) (by decide +kernel)) (fun k hk => by rw [setI_no (by omega), setI_no (by omega)]) rfl (fun K j h1 h2 h3 h4 h5 h6 h7 => by rw [setI_no (by omega)]; exact zF.1 K j h1 (by omega) (by omega) h7) (by rw [setI_no (by omega), setI_no (by omega), setI_at]; exact n13) (fun j => by rw [setI_no (by omega), setI_no (by omega)]) (fun j hj => by
      rw [setI_no (by omega), setI_at, hb_or hj a32, setI_no (h := m2) (by omega), setI_no (h := m2) (by omega), z55, z56]
      by_cases y : j = a
      · rw [if_pos (by omega), if_pos (by omega), y, setI_at]
        exact ⟨by simp [i32_1], fun _ => rfl⟩
      · rw [if_neg (by omega), if_neg (by omega), setI_no (by omega), setI_no (by omega)]
        simp only [y, decide_false, Bool.or_false]
        exact tk j hj)
    obtain ⟨y, R2⟩ := R1.wr G ⟨none, Or.inl rfl, _, _, _, _, wz⟩
    obtain ⟨y1, y2, y3⟩ := tri y
    subst y2
    exact ⟨_, _, w, e4 y1 y3, R2⟩

theorem go_write_m3 {g h hm : Hp} {st c i p d d2 : Nat} {s : Int32} {r r2 : Option Value × Hp × Nat} (G : GS g) (R : RRM g h hm st c i st (CUn g h hm c i p p p)) (hp : p < stLen (qJ g c i)) (hC : stC (qJ g c i) p = 3) (hk : qK g c i = 0) (ho : qO g c i = 3) (hxT : TInv h) (MPh : MP hm) (h42 : 0 ≤ rd 31 42 hm ∧ rd 31 42 hm ≤ 90000) (e : Ev d 45 (0, [some (.ref 208), some (.ref (148 + 12 * c)), some (.ref (152 + 12 * c + i)), some (.int s), none], [], h, fl_tot) r) (e2 : Ev d2 158 (113, lsM g c i p, [], hm, fl_tot) r2) : GO g st c i p (lsM g c i p) (fun h' hm' => CUn g h' hm' c i (p + 1) p (p + 1)) d2 r r2 := by
  obtain ⟨⟨X, M, S15, K, hT⟩, RT, RO, hc, hi, CK, b1, b2, ⟨u1, u2⟩, u3, u4, u5, u6, u7, u8⟩ := id R
  have c5 := G.c5 hc
  have i8 := G.i8 hc hi
  have T6 := G.T6 hc hi
  have hJ := G.len hc hi
  obtain ⟨p10, hp0, hpl, hcd⟩ := cx G X hc hi (by omega) hp u3 u5
  obtain ⟨eF, eK⟩ := cF G X hc hi
  obtain ⟨s1, s2, s3, s4, s5, s6, s7⟩ := SM.st G M hc hi
  obtain ⟨tc, ow1, ow2⟩ := RT _ (G.T hc hi)
  have I := G.inn hc hi hp
  have tb := G.tb hc hi hp
  have e1 : h.1 (152 + 12 * c + i) 9 + Int32.ofInt 1 = Int32.ofNat (p + 1) := by rw [u3, o32 (by omega)]
  have ex : (Int32.ofNat (8 * c + i)).toNatClampNeg = 8 * c + i := o32c (by omega)
  have ecn : (Int32.ofNat c).toNatClampNeg = c := o32c (by omega)
  have eTn : (Int32.ofNat (qT g c i)).toNatClampNeg = qT g c i := o32c (by omega)
  have b69 := TI.rng hT 69 6 0 40 (by decide +kernel) (by decide) (by decide) T6
  have kg : (g.1 224 (qT g c i)).toInt = 0 := hk
  have eO : (g.1 229 (8 * c + i)).toInt = qO g c i := rfl
  have c1 := i32_1
  have c0 := i32_0
  obtain ⟨a, a32, ea, -⟩ := G.key hc hi (Or.inl hk)
  have hbi := hbS (x := h.1 (5 + 24 * qT g c i) 1) a32
  have tk := tc.1 (by omega)
  have ck := ckey a32
  have hk2 : (hm.1 224 (qT g c i)).toInt = 0 := by rw [s3]; exact hk
  have hnk : (h.1 1 3).toInt = qc g := by rw [X.2.1.2]; exact G.1.2.2.2
  have hat : (h.1 (148 + 12 * c) 4).toInt = i := by rw [CK.1.1, i32n (by omega)]
  have hw0 : (h.1 (152 + 12 * c + i) 10).toInt = 0 := by rw [u1]; decide
  have kS : (Int32.ofInt (qS g c i p)).toInt = 2 := by rw [I.1, hC]; rfl
  have t3 := tb.2.2.2.2.2.2.2.2 hC
  have n13 := (u7.1 hk t3.1).1
  obtain ⟨m1, em1, -, mF⟩ := x_ad (h := (fl_setI h (152 + 12 * c + i) 13 (h.1 (152 + 12 * c + i) 13 + g.1 231 (8 * c + i)))) (k := (((Int32.ofNat a) >>> ((Int32.ofInt 2) &&& 31)) &&& (Int32.ofInt 7))) (hxT.w (tic13 c5 i8) ⟨Int32.le_toInt _, Int32.toInt_le _⟩) T6 ck.2 ck.1
  obtain ⟨m2, em2, mT, zF, z55, z56⟩ := z_pu (hm.1 248 c + g.1 231 (8 * c + i)) hT T6 a32 MPh M.1 hk2 h42
  have W := y_go_write_map3 (m1 := m1) (X.sq (G.c5 hc)) (G.T6 hc hi) (G.c5 hc) (G.i8 hc hi) (X.ak G hc hi) hp0 hpl (by rw [hcd]; exact hC) (by rw [eK]; exact hk) hat hw0 hnk G.1.2.2.1 ho (by rw [ea]; exact em1) mF e
  obtain ⟨-, -, -, -, -, e2⟩ := z_does_write (h := hm) (c := Int32.ofNat c) (x := Int32.ofNat (8 * c + i)) M.1 kS e2
  obtain ⟨d3, v3, h3, n3, e3, e4⟩ := z_c169 e2
  obtain ⟨-, -, -, -, wz⟩ := z_write_map3 M.1 (t := Int32.ofNat (qT g c i)) (m2 := m2) (op := g.1 229 (8 * c + i)) (a := g.1 230 (8 * c + i)) (by rw [ex]; exact s2) (by rw [ex]; exact s5) (by rw [ex]; exact s6) (by rw [eTn]; exact hk2) ho (by rw [ea, ex, ecn, s7]; exact em2) zF e3
  rw [ecn, ex, s7] at wz
  rw [ea, an31 a32, e1] at W
  rcases W with ⟨q1, q2, q3, q4, q5, q6, q7, q8, q9, q10, q11, q12, q13, w⟩ | ⟨q1, q2, q3, q4, q5, q6, q7, q8, q9, q10, q11, q12, q13, w⟩
  · clear tb I t3
    have R1 := RRM.mapw (H := fl_setI (fl_setI m1 (5 + 24 * qT g c i) 1 (h.1 (5 + 24 * qT g c i) 1 ||| ((Int32.ofInt 1) <<< ((Int32.ofNat a &&& Int32.ofInt 31) &&& 31)))) (6 + 24 * qT g c i) a (h.1 (152 + 12 * c + i) 13 + g.1 231 (8 * c + i))) (HM := fl_setI m2 248 c (hm.1 248 c + g.1 231 (8 * c + i))) G R hp hC hk ((((KFX.refl _ _ _ _).set _ _ _ (by omega) |>.trans (KFX.opm mF)).set _ _ _ (by omega)).set _ _ _ (by omega)) ((KFM.mf2 zF fun j hj => ⟨by rw [z55, if_neg (by omega)], by rw [z56, if_neg (by omega)]⟩).set _ _ _ (by omega)) (mT.full 248 _ _ (by decide +kernel) (by decide +kernel)) (fun k hk => by rw [setI_no (by omega), setI_no (by omega), mF.1 _ _ (by omega), setI_no (by omega)]) (mF.2 _ _ (by omega)) (fun K j h1 h2 h3 h4 h5 h6 h7 => by rw [setI_no (by omega)]; exact zF.1 K j h1 (by omega) (by omega) h7) (by rw [setI_no (by omega), setI_no (by omega), mF.1 _ _ (by omega), setI_at, setI_at, n13]) (fun j => by rw [setI_no (by omega), setI_no (by omega), mF.1 _ _ (by omega), setI_no (by omega)]) (fun j hj => by
      rw [setI_no (by omega), setI_at, hb_or hj a32, setI_no (h := m2) (by omega), setI_no (h := m2) (by omega), z55, z56]
      by_cases y : j = a
      · rw [if_pos (by omega), if_pos (by omega), y, setI_at]
        exact ⟨by simp [i32_1], fun _ => by rw [n13]⟩
      · rw [if_neg (by omega), if_neg (by omega), setI_no (by omega), setI_no (by omega), mF.1 _ _ (by omega), setI_no (by omega)]
        simp only [y, decide_false, Bool.or_false]
        exact tk j hj)
    obtain ⟨y, R2⟩ := R1.wr G ⟨none, Or.inl rfl, _, _, _, _, wz⟩
    obtain ⟨y1, y2, y3⟩ := tri y
    subst y2
    exact ⟨_, _, w, e4 y1 y3, R2⟩
  · clear tb I t3
    have R1 := RRM.mapw (H := fl_setI (fl_setI (fl_setI h (152 + 12 * c + i) 13 (h.1 (152 + 12 * c + i) 13 + g.1 231 (8 * c + i))) (5 + 24 * qT g c i) 1 (h.1 (5 + 24 * qT g c i) 1 ||| ((Int32.ofInt 1) <<< ((Int32.ofNat a &&& Int32.ofInt 31) &&& 31)))) (6 + 24 * qT g c i) a (h.1 (152 + 12 * c + i) 13 + g.1 231 (8 * c + i))) (HM := fl_setI m2 248 c (hm.1 248 c + g.1 231 (8 * c + i))) G R hp hC hk ((((KFX.refl _ _ _ _).set _ _ _ (by omega)).set _ _ _ (by omega)).set _ _ _ (by omega)) ((KFM.mf2 zF fun j hj => ⟨by rw [z55, if_neg (by omega)], by rw [z56, if_neg (by omega)]⟩).set _ _ _ (by omega)) (mT.full 248 _ _ (by decide +kernel) (by decide +kernel)) (fun k hk => by rw [setI_no (by omega), setI_no (by omega), setI_no (by omega)]) rfl (fun K j h1 h2 h3 h4 h5 h6 h7 => by rw [setI_no (by omega)]; exact zF.1 K j h1 (by omega) (by omega) h7) (by rw [setI_no (by omega), setI_no (by omega), setI_at, setI_at, n13]) (fun j => by rw [setI_no (by omega), setI_no (by omega), setI_no (by omega)]) (fun j hj => by
      rw [setI_no (by omega), setI_at, hb_or hj a32, setI_no (h := m2) (by omega), setI_no (h := m2) (by omega), z55, z56]
      by_cases y : j = a
      · rw [if_pos (by omega), if_pos (by omega), y, setI_at]
        exact ⟨by simp [i32_1], fun _ => by rw [n13]⟩
      · rw [if_neg (by omega), if_neg (by omega), setI_no (by omega), setI_no (by omega), setI_no (by omega)]
        simp only [y, decide_false, Bool.or_false]
        exact tk j hj)
    obtain ⟨y, R2⟩ := R1.wr G ⟨none, Or.inl rfl, _, _, _, _, wz⟩
    obtain ⟨y1, y2, y3⟩ := tri y
    subst y2
    exact ⟨_, _, w, e4 y1 y3, R2⟩

theorem go_write_m2 {g h hm : Hp} {st c i p d d2 : Nat} {s : Int32} {r r2 : Option Value × Hp × Nat} (G : GS g) (R : RRM g h hm st c i st (CUn g h hm c i p p p)) (hp : p < stLen (qJ g c i)) (hC : stC (qJ g c i) p = 3) (hk : qK g c i = 0) (ho : qO g c i = 2) (hxT : TInv h) (MPh : MP hm) (h42 : 0 ≤ rd 31 42 hm ∧ rd 31 42 hm ≤ 90000) (e : Ev d 45 (0, [some (.ref 208), some (.ref (148 + 12 * c)), some (.ref (152 + 12 * c + i)), some (.int s), none], [], h, fl_tot) r) (e2 : Ev d2 158 (113, lsM g c i p, [], hm, fl_tot) r2) : GO g st c i p (lsM g c i p) (fun h' hm' => CUn g h' hm' c i (p + 1) p (p + 1)) d2 r r2 := by
  obtain ⟨⟨X, M, S15, K, hT⟩, RT, RO, hc, hi, CK, b1, b2, ⟨u1, u2⟩, u3, u4, u5, u6, u7, u8⟩ := id R
  have c5 := G.c5 hc
  have i8 := G.i8 hc hi
  have T6 := G.T6 hc hi
  have hJ := G.len hc hi
  obtain ⟨p10, hp0, hpl, hcd⟩ := cx G X hc hi (by omega) hp u3 u5
  obtain ⟨eF, eK⟩ := cF G X hc hi
  obtain ⟨s1, s2, s3, s4, s5, s6, s7⟩ := SM.st G M hc hi
  obtain ⟨tc, ow1, ow2⟩ := RT _ (G.T hc hi)
  have I := G.inn hc hi hp
  have tb := G.tb hc hi hp
  have e1 : h.1 (152 + 12 * c + i) 9 + Int32.ofInt 1 = Int32.ofNat (p + 1) := by rw [u3, o32 (by omega)]
  have ex : (Int32.ofNat (8 * c + i)).toNatClampNeg = 8 * c + i := o32c (by omega)
  have ecn : (Int32.ofNat c).toNatClampNeg = c := o32c (by omega)
  have eTn : (Int32.ofNat (qT g c i)).toNatClampNeg = qT g c i := o32c (by omega)
  have b69 := TI.rng hT 69 6 0 40 (by decide +kernel) (by decide) (by decide) T6
  have kg : (g.1 224 (qT g c i)).toInt = 0 := hk
  have eO : (g.1 229 (8 * c + i)).toInt = qO g c i := rfl
  have c1 := i32_1
  have c0 := i32_0
  obtain ⟨a, a32, ea, -⟩ := G.key hc hi (Or.inl hk)
  have hbi := hbS (x := h.1 (5 + 24 * qT g c i) 1) a32
  have tk := tc.1 (by omega)
  have ck := ckey a32
  have hk2 : (hm.1 224 (qT g c i)).toInt = 0 := by rw [s3]; exact hk
  have hnk : (h.1 1 3).toInt = qc g := by rw [X.2.1.2]; exact G.1.2.2.2
  have hat : (h.1 (148 + 12 * c) 4).toInt = i := by rw [CK.1.1, i32n (by omega)]
  have hw0 : (h.1 (152 + 12 * c + i) 10).toInt = 0 := by rw [u1]; decide
  have kS : (Int32.ofInt (qS g c i p)).toInt = 2 := by rw [I.1, hC]; rfl
  have t3 := tb.2.2.2.2.2.2.2.2 hC
  have n13 := (u7.1 hk t3.1).1
  obtain ⟨m1, em1, -, mF⟩ := x_to (k := (((Int32.ofNat a) >>> ((Int32.ofInt 2) &&& 31)) &&& (Int32.ofInt 7))) hxT T6 ck.2 ck.1
  have W := y_go_write_map2 (m1 := m1) (X.sq (G.c5 hc)) (G.T6 hc hi) (G.c5 hc) (G.i8 hc hi) (X.ak G hc hi) hp0 hpl (by rw [hcd]; exact hC) (by rw [eK]; exact hk) hat hw0 hnk G.1.2.2.1 ho (by rw [ea]; exact em1) mF e
  obtain ⟨-, -, -, -, -, e2⟩ := z_does_write (h := hm) (c := Int32.ofNat c) (x := Int32.ofNat (8 * c + i)) M.1 kS e2
  obtain ⟨d3, v3, h3, n3, e3, e4⟩ := z_c169 e2
  obtain ⟨-, -, wz⟩ := z_write_map2 M.1 (t := Int32.ofNat (qT g c i)) (op := g.1 229 (8 * c + i)) (a := g.1 230 (8 * c + i)) (by rw [ex]; exact s2) (by rw [ex]; exact s5) (by rw [ex]; exact s6) (by rw [eTn]; exact hk2) ho e3
  rw [ea, i32k (by omega) (by omega)] at wz
  rw [ea, e1] at W
  rcases W with ⟨q1, q2, q3, q4, q5, q6, q7, q8, q9, q10, q11, w⟩ | ⟨q1, q2, q3, q4, q5, q6, q7, q8, q9, q10, q11, w⟩
  · clear tb I t3
    have R1 := RRM.mapw (H := fl_setI h (5 + 24 * qT g c i) 1 (h.1 (5 + 24 * qT g c i) 1 &&& (((Int32.ofInt 1) <<< ((Int32.ofNat a &&& Int32.ofInt 31) &&& 31)) ^^^ (Int32.ofInt (-1))))) (HM := fl_setI hm 255 (32 * qT g c i + a) (Int32.ofInt 0)) G R hp hC hk ((KFX.refl _ _ _ _).set _ _ _ (by omega)) ((KFM.refl _ _ _ _).set _ _ _ (by omega)) (hT.a 255 _ 0 1 (by decide +kernel) (by decide +kernel) (by decide)) (fun k hk => by rw [setI_no (by omega)]) rfl (fun K j h1 h2 h3 h4 h5 h6 h7 => setI_no (by omega)) (by rw [setI_no (by omega), setI_no (by omega)]; exact n13) (fun j => by rw [setI_no (by omega)]) (fun j hj => by
      rw [setI_at, hb_out hj a32, setI_no (r' := 6 + 24 * qT g c i) (by omega), setI_no (h := hm) (r' := 256) (by omega)]
      by_cases y : j = a
      · rw [y, setI_at]
        exact ⟨by simp [i32_0], fun z => absurd (show (Int32.ofInt 0).toInt = 0 by decide) z⟩
      · rw [setI_no (by omega)]
        simp only [y, decide_false, Bool.not_false, Bool.and_true]
        exact tk j hj)
    obtain ⟨y, R2⟩ := R1.wr G ⟨none, Or.inl rfl, _, _, _, _, wz⟩
    obtain ⟨y1, y2, y3⟩ := tri y
    subst y2
    exact ⟨_, _, w, e4 y1 y3, R2⟩
  · clear tb I t3
    have R1 := RRM.mapw (H := fl_setI m1 (5 + 24 * qT g c i) 1 (h.1 (5 + 24 * qT g c i) 1 &&& (((Int32.ofInt 1) <<< ((Int32.ofNat a &&& Int32.ofInt 31) &&& 31)) ^^^ (Int32.ofInt (-1))))) (HM := fl_setI hm 255 (32 * qT g c i + a) (Int32.ofInt 0)) G R hp hC hk ((KFX.opm mF).set _ _ _ (by omega)) ((KFM.refl _ _ _ _).set _ _ _ (by omega)) (hT.a 255 _ 0 1 (by decide +kernel) (by decide +kernel) (by decide)) (fun k hk => by rw [setI_no (by omega), mF.1 _ _ (by omega)]) (mF.2 _ _ (by omega)) (fun K j h1 h2 h3 h4 h5 h6 h7 => setI_no (by omega)) (by rw [setI_no (by omega), mF.1 _ _ (by omega), setI_no (by omega)]; exact n13) (fun j => by rw [setI_no (by omega), mF.1 _ _ (by omega)]) (fun j hj => by
      rw [setI_at, hb_out hj a32, setI_no (r' := 6 + 24 * qT g c i) (by omega), mF.1 _ _ (by omega), setI_no (h := hm) (r' := 256) (by omega)]
      by_cases y : j = a
      · rw [y, setI_at]
        exact ⟨by simp [i32_0], fun z => absurd (show (Int32.ofInt 0).toInt = 0 by decide) z⟩
      · rw [setI_no (by omega)]
        simp only [y, decide_false, Bool.not_false, Bool.and_true]
        exact tk j hj)
    obtain ⟨y, R2⟩ := R1.wr G ⟨none, Or.inl rfl, _, _, _, _, wz⟩
    obtain ⟨y1, y2, y3⟩ := tri y
    subst y2
    exact ⟨_, _, w, e4 y1 y3, R2⟩
