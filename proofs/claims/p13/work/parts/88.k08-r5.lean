
set_option maxRecDepth 20000
/-! STEPS ON BOTH SIDES: COPIES -/
theorem hbS {x : Int32} {k : Nat} (hk : k < 32) : ((ushr x (Int32.ofNat k &&& Int32.ofInt 31)) &&& Int32.ofInt 1).toInt = 0 ↔ ¬ (hb x k = true) := by
  rw [hb_iff0 hk]
  cases hb x k <;> simp
theorem wsum_eq {h hm : Hp} {t : Nat} (t6 : t < 6) (T : TRk h hm t) : ∀ n, n ≤ 32 → wsum h (5 + 24 * t) (6 + 24 * t) n = msum hm (Int32.ofNat t) n
  | 0, _ => rfl
  | n + 1, hn => by
    have ih := wsum_eq t6 T n (by omega)
    obtain ⟨a, b⟩ := T n (by omega)
    unfold wsum msum
    rw [i32k (by omega) (by omega)]
    by_cases y : hb (h.1 (5 + 24 * t) 1) n = true
    · rw [if_neg (fun z => (hbS (by omega)).mp z y), if_neg (a.mp y), ih, b (a.mp y)]
    · have z : (hm.1 255 (32 * t + n)).toInt = 0 := Decidable.byContradiction fun z => y (a.mpr z)
      rw [if_pos ((hbS (by omega)).mpr y), if_pos z, ih]
      exact (Int32.add_zero _).symm
theorem cpR_T {h : Hp} {c t : Nat} (hT : TInv h) (c5 : c < 5) (t6 : t < 6) : ∀ n, n ≤ 32 → TInv (cpR h (Int32.ofNat c) (Int32.ofNat t) n)
  | 0, _ => hT
  | n + 1, hn => by
    unfold cpR
    rw [i32k (by omega) (by omega), i32k (by omega) (by omega)]
    exact ((cpR_T hT c5 t6 n (by omega)).a 252 _ 0 1 (by decide +kernel) (by decide +kernel) (TI.rng hT 63 192 0 1 (by decide +kernel) (by decide) (by decide) (by omega))).full 253 _ _ (by decide +kernel) (by decide +kernel)
theorem cpR_k {h : Hp} {c t j : Nat} (c5 : c < 5) (t6 : t < 6) : (cpR h (Int32.ofNat c) (Int32.ofNat t) 32).1 252 j = (if 32 * c ≤ j ∧ j < 32 * c + 32 then h.1 255 (32 * t + (j - 32 * c)) else h.1 252 j) ∧ (cpR h (Int32.ofNat c) (Int32.ofNat t) 32).1 253 j = (if 32 * c ≤ j ∧ j < 32 * c + 32 then h.1 256 (32 * t + (j - 32 * c)) else h.1 253 j) := by
  have a : (Int32.ofNat c).toNatClampNeg = c := o32c (by omega)
  have b : (Int32.ofNat t).toNatClampNeg = t := o32c (by omega)
  have x : (Int32.ofNat c).toInt = c := i32n (by omega)
  have y : (Int32.ofNat t).toInt = t := i32n (by omega)
  have := cpR_at (h := h) (c := Int32.ofNat c) (t := Int32.ofNat t) (j := j) (by omega) (by omega) (by omega) (by omega) 32 (Nat.le_refl _)
  rw [a, b] at this
  exact this
theorem KFM.cpR {c i t : Nat} {h h' : Hp} (c5 : c < 5) (t6 : t < 6) (x : KFM c i t h h') : KFM c i t h (cpR h' (Int32.ofNat c) (Int32.ofNat t) 32) := by
  refine x.trans ⟨fun K j z0 z1 z2 z3 z4 z5 z6 z7 z8 z9 => ?_, cpR_2 32⟩
  by_cases y : K = 252
  · subst y
    rw [(cpR_k c5 t6).1, if_neg (by omega)]
  · by_cases y2 : K = 253
    · subst y2
      rw [(cpR_k c5 t6).2, if_neg (by omega)]
    · exact cpR_out ⟨y, y2⟩ 32

set_option maxHeartbeats 8000000 in
theorem go_read_k {g h hm : Hp} {st c i p d d2 : Nat} {s : Int32} {r r2 : Option Value × Hp × Nat} (G : GS g) (R : RRM g h hm st c i st (CUn g h hm c i p p p)) (hp : p < stLen (qJ g c i)) (hC : stC (qJ g c i) p = 2) (hk : qK g c i = 4) (e : Ev d 45 (0, [some (.ref 208), some (.ref (148 + 12 * c)), some (.ref (152 + 12 * c + i)), some (.int s), none], [], h, fl_tot) r) (e2 : Ev d2 158 (113, lsM g c i p, [], hm, fl_tot) r2) : GO g st c i p (lsM g c i p) (fun h' hm' => CUn g h' hm' c i (p + 1) p (p + 1)) d2 r r2 := by
  obtain ⟨⟨X, M, S15, K, hT⟩, RT, RO, hc, hi, CK, b1, b2, ⟨u1, u2⟩, u3, u4, u5, u6, u7, u8⟩ := id R
  have c5 := G.c5 hc
  have i8 := G.i8 hc hi
  have T6 := G.T6 hc hi
  have hJ := G.len hc hi
  obtain ⟨p10, hp0, hpl, hcd⟩ := cx G X hc hi (by omega) hp u3 u5
  obtain ⟨eF, eK⟩ := cF G X hc hi
  obtain ⟨s1, s2, s3, s4, s5, s6, s7⟩ := SM.st G M hc hi
  obtain ⟨tc, ow1, ow2⟩ := RT _ (G.T hc hi)
  have I := G.inn hc hi hp
  have tb := G.tb hc hi hp
  have e1 : h.1 (152 + 12 * c + i) 9 + Int32.ofInt 1 = Int32.ofNat (p + 1) := by rw [u3, o32 (by omega)]
  have ex : (Int32.ofNat (8 * c + i)).toNatClampNeg = 8 * c + i := o32c (by omega)
  have ecn : (Int32.ofNat c).toNatClampNeg = c := o32c (by omega)
  have eTn : (Int32.ofNat (qT g c i)).toNatClampNeg = qT g c i := o32c (by omega)
  have b69 := TI.rng hT 69 6 0 40 (by decide +kernel) (by decide) (by decide) T6
  have kg : (g.1 224 (qT g c i)).toInt = 4 := hk
  have eO : (g.1 229 (8 * c + i)).toInt = qO g c i := rfl
  have c1 := i32_1
  have c0 := i32_0
  have op1 : 0 ≤ qO g c i ∧ qO g c i ≤ 3 := by
    obtain ⟨-, -, o3, o4⟩ := G.op hc hi
    rw [hk] at o4
    exact ⟨o3, o4⟩
  have kS : (Int32.ofInt (qS g c i p)).toInt = 1 := by rw [I.1, hC]; rfl
  have rp := (tb.2.2.1 hC).1
  have rd : rdP (qK g c i) (qO g c i) = if qO g c i = 1 ∨ qO g c i = 3 then 1 else 2 := by
    unfold rdP
    rw [hk, if_neg (by omega)]
    by_cases y : qO g c i = 1 ∨ qO g c i = 3
    · rw [if_pos ⟨rfl, y⟩, if_pos y]
    · rw [if_neg (fun z => y z.2), if_neg y]
  have W := y_go_read_copies (X.sq (G.c5 hc)) (G.T6 hc hi) (G.c5 hc) (G.i8 hc hi) (X.ak G hc hi) hp0 hpl (by rw [hcd]; exact hC) (by rw [eK]; exact hk) e
  obtain ⟨-, -, -, e2⟩ := z_does_read (h := hm) (c := Int32.ofNat c) (x := Int32.ofNat (8 * c + i)) M.1 kS e2
  obtain ⟨d3, v3, h3, n3, e3, e4⟩ := z_c161 e2
  obtain ⟨-, -, -, -, e3⟩ := z_read_copies0 M.1 (t := Int32.ofNat (qT g c i)) (op := g.1 229 (8 * c + i)) (a := g.1 230 (8 * c + i)) (by rw [ex]; exact s2) (by rw [ex]; exact s5) (by rw [ex]; exact s6) (by rw [eTn, s3]; exact hk) e3
  obtain ⟨kk, e3⟩ := z_copies_l (h := hm) M.1 33 (k := 0) (by decide) (by decide) e3
  have Z := z_copies_e (by rw [cpR_2]; exact M.1) e3
  rw [ecn] at Z
  have tk := tc.1 (by omega)
  have hv3 : wsum h (5 + 24 * qT g c i) (6 + 24 * qT g c i) 32 = msum hm (Int32.ofNat (qT g c i)) 32 := wsum_eq T6 tk 32 (Nat.le_refl _)
  have hcp1 : ∀ j : Nat, j < 32 → (hb (h.1 (5 + 24 * qT g c i) 1) j = true ↔ ((cpR hm (Int32.ofNat c) (Int32.ofNat (qT g c i)) 32).1 252 (32 * c + j)).toInt ≠ 0) := fun j hj => by
    rw [(cpR_k c5 T6).1, if_pos (by omega), show 32 * c + j - 32 * c = j by omega]
    exact (tk j hj).1
  have hcp2 : ∀ j : Nat, j < 32 → ((cpR hm (Int32.ofNat c) (Int32.ofNat (qT g c i)) 32).1 252 (32 * c + j)).toInt ≠ 0 → h.1 (6 + 24 * qT g c i) (0 + (j - 0)) = (cpR hm (Int32.ofNat c) (Int32.ofNat (qT g c i)) 32).1 253 (32 * c + j) := fun j hj => by
    rw [(cpR_k c5 T6).1, (cpR_k c5 T6).2, if_pos (by omega), if_pos (by omega), show 32 * c + j - 32 * c = j by omega, show 0 + (j - 0) = j by omega]
    exact (tk j hj).2
  by_cases o3 : qO g c i = 3
  · have hv : Int32.ofInt 0 = Int32.ofInt 0 := rfl
    have rd1 : rdP (qK g c i) (qO g c i) = 1 := by rw [rd, if_pos (Or.inr o3)]
    clear rd
    rcases W with ⟨q1, q2, q3, q4, q5, q6, q7, q8, q9, q10, q11, q12, q13, q14, q15, w⟩ | ⟨q1, q2, q3, q4, q5, q6, q7, q8, q9, q10, q11, q12, q13, q14, q15, w⟩ | ⟨q1, q2, q3, q4, q5, q6, q7, q8, q9, q10, q11, q12, q13, q14, q15, w⟩ | ⟨q1, q2, q3, q4, q5, q6, q7, q8, q9, q10, q11, q12, q13, q14, q15, w⟩ | ⟨q1, q2, q3, q4, q5, q6, q7, q8, q9, q10, q11, q12, q13, q14, q15, w⟩ | ⟨q1, q2, q3, q4, q5, q6, q7, q8, q9, q10, q11, q12, q13, q14, q15, w⟩ | ⟨q1, q2, q3, q4, q5, q6, q7, q8, q9, q10, q11, q12, q13, q14, q15, w⟩ | ⟨q1, q2, q3, q4, q5, q6, q7, q8, q9, q10, q11, q12, q13, q14, q15, w⟩ | ⟨q1, q2, q3, q4, q5, q6, q7, q8, q9, q10, q11, q12, q13, w⟩ | ⟨q1, q2, q3, q4, q5, q6, q7, q8, q9, q10, q11, q12, q13, w⟩
    · exfalso; omega
    · exfalso; omega
    · exfalso; omega
    · exfalso; omega
    · exfalso; omega
    · exfalso; omega
    · exfalso; omega
    · exfalso; omega
    · exfalso; omega
    · clear q1 q2 q3 q4 q5 q6 q7 q8 q9 q10 q11 q12 q13
      rcases Z with ⟨z1, z2, wz⟩ | ⟨z1, z2, z3, wz⟩ | ⟨z1, z2, z3, wz⟩
      · clear z1 z2 tb I
        obtain ⟨y1, y2, y3⟩ := tri wz
        subst y2
        rw [e1] at w
        refine ⟨_, _, w, e4 y1 y3, RRM.cu G (b' := (st : Int) + 1) (by omega) R ((((KFX.refl _ _ _ _).set _ _ _ (by omega)).set _ _ _ (by omega)).set _ _ _ (by omega)) (((KFM.cpR c5 T6 (KFM.refl _ _ _ _)).set _ _ _ (by omega)).set _ _ _ (by omega)) (((cpR_T hT c5 T6 32 (Nat.le_refl _)).a 247 _ 0 1 (by decide +kernel) (by decide +kernel) (by decide)).full 248 _ _ (by decide +kernel) (by decide +kernel)) ?_ ?_ setI_at rfl ?_ ?_ ?_ ?_ (fun j => ?_) (fun j => ?_) (tc.fr b69.2 (by omega) ⟨fun j => ⟨?_, ?_, ?_, ?_⟩, fun K j hK h1 h2 => ?_, fun j h1 h2 => ?_, fun K hK => ?_, fun j h1 h2 => ?_⟩) ⟨fun z => by omega, fun z => by omega, fun z => by omega, fun z => by omega, fun _ _ => ⟨?_, ?_, fun q j hj => ⟨?_, ?_⟩⟩, fun z => by omega⟩ (HLD.next G hc hi hp (by omega))⟩
        all_goals first | rfl | exact (cpR_out (by omega) _) | (simp (disch := omega) only [setI_at, setI_no, cpy_at, cpy_no]; done) | (exfalso; omega) | (simp (disch := omega) only [setI_at, setI_no, cpy_at, cpy_no]; first | decide | exact (cpR_out (by omega) _) | rfl | exact hv3 | exact hv | exact hcp1 _ (by assumption) | exact hcp2 _ (by assumption))
      · exfalso; omega
      · exfalso; omega
  · obtain ⟨a, a32, ea, -⟩ := G.key hc hi (Or.inr (Or.inr ⟨hk, o3⟩))
    rw [ea, an31 a32] at W
    rw [ea, i32k (by omega) (by omega), cpR_out (by decide), cpR_out (by decide)] at Z
    have hbi := hbS (x := h.1 (5 + 24 * qT g c i) 1) a32
    have tka := tk a a32
    have rdv : rdP (qK g c i) (qO g c i) = if qO g c i = 1 then 1 else 2 := by
      rw [rd]
      by_cases y : qO g c i = 1
      · rw [if_pos (Or.inl y), if_pos y]
      · rw [if_neg (by omega), if_neg y]
    clear rd
    by_cases y0 : (hm.1 255 (32 * qT g c i + a)).toInt = 0
    · have hb0 : ((ushr (h.1 (5 + 24 * qT g c i) 1) (Int32.ofNat a &&& Int32.ofInt 31)) &&& Int32.ofInt 1).toInt = 0 := hbi.mpr (fun z => tka.1.mp z y0)
      have hv : Int32.ofInt 0 = Int32.ofInt 0 := rfl
      clear hbi tka
      by_cases o1 : qO g c i = 1
      · rw [if_pos o1] at rdv
        rcases W with ⟨q1, q2, q3, q4, q5, q6, q7, q8, q9, q10, q11, q12, q13, q14, q15, w⟩ | ⟨q1, q2, q3, q4, q5, q6, q7, q8, q9, q10, q11, q12, q13, q14, q15, w⟩ | ⟨q1, q2, q3, q4, q5, q6, q7, q8, q9, q10, q11, q12, q13, q14, q15, w⟩ | ⟨q1, q2, q3, q4, q5, q6, q7, q8, q9, q10, q11, q12, q13, q14, q15, w⟩ | ⟨q1, q2, q3, q4, q5, q6, q7, q8, q9, q10, q11, q12, q13, q14, q15, w⟩ | ⟨q1, q2, q3, q4, q5, q6, q7, q8, q9, q10, q11, q12, q13, q14, q15, w⟩ | ⟨q1, q2, q3, q4, q5, q6, q7, q8, q9, q10, q11, q12, q13, q14, q15, w⟩ | ⟨q1, q2, q3, q4, q5, q6, q7, q8, q9, q10, q11, q12, q13, q14, q15, w⟩ | ⟨q1, q2, q3, q4, q5, q6, q7, q8, q9, q10, q11, q12, q13, w⟩ | ⟨q1, q2, q3, q4, q5, q6, q7, q8, q9, q10, q11, q12, q13, w⟩
        · clear q1 q2 q3 q4 q5 q6 q7 q8 q9 q10 q11 q12 q13 q14 q15
          rcases Z with ⟨z1, z2, wz⟩ | ⟨z1, z2, z3, wz⟩ | ⟨z1, z2, z3, wz⟩
          · exfalso; omega
          · clear z1 z2 z3 tb I
            obtain ⟨y1, y2, y3⟩ := tri wz
            subst y2
            rw [e1] at w
            refine ⟨_, _, w, e4 y1 y3, RRM.cu G (b' := (st : Int) + 1) (by omega) R ((((KFX.refl _ _ _ _).set _ _ _ (by omega)).set _ _ _ (by omega)).set _ _ _ (by omega)) (((KFM.cpR c5 T6 (KFM.refl _ _ _ _)).set _ _ _ (by omega)).set _ _ _ (by omega)) (((cpR_T hT c5 T6 32 (Nat.le_refl _)).a 247 _ 0 1 (by decide +kernel) (by decide +kernel) (by decide)).full 248 _ _ (by decide +kernel) (by decide +kernel)) ?_ ?_ setI_at rfl ?_ ?_ ?_ ?_ (fun j => ?_) (fun j => ?_) (tc.fr b69.2 (by omega) ⟨fun j => ⟨?_, ?_, ?_, ?_⟩, fun K j hK h1 h2 => ?_, fun j h1 h2 => ?_, fun K hK => ?_, fun j h1 h2 => ?_⟩) ⟨fun z => by omega, fun z => by omega, fun z => by omega, fun z => by omega, fun _ _ => ⟨?_, ?_, fun q j hj => ⟨?_, ?_⟩⟩, fun z => by omega⟩ (HLD.next G hc hi hp (by omega))⟩
            all_goals first | rfl | exact (cpR_out (by omega) _) | (simp (disch := omega) only [setI_at, setI_no, cpy_at, cpy_no]; done) | (exfalso; omega) | (simp (disch := omega) only [setI_at, setI_no, cpy_at, cpy_no]; first | decide | exact (cpR_out (by omega) _) | rfl | exact hv3 | exact hv | exact hcp1 _ (by assumption) | exact hcp2 _ (by assumption))
          · exfalso; omega
        · exfalso; omega
        · exfalso; omega
        · exfalso; omega
        · exfalso; omega
        · exfalso; omega
        · exfalso; omega
        · exfalso; omega
        · exfalso; omega
        · exfalso; omega
      · rw [if_neg o1] at rdv
        rcases W with ⟨q1, q2, q3, q4, q5, q6, q7, q8, q9, q10, q11, q12, q13, q14, q15, w⟩ | ⟨q1, q2, q3, q4, q5, q6, q7, q8, q9, q10, q11, q12, q13, q14, q15, w⟩ | ⟨q1, q2, q3, q4, q5, q6, q7, q8, q9, q10, q11, q12, q13, q14, q15, w⟩ | ⟨q1, q2, q3, q4, q5, q6, q7, q8, q9, q10, q11, q12, q13, q14, q15, w⟩ | ⟨q1, q2, q3, q4, q5, q6, q7, q8, q9, q10, q11, q12, q13, q14, q15, w⟩ | ⟨q1, q2, q3, q4, q5, q6, q7, q8, q9, q10, q11, q12, q13, q14, q15, w⟩ | ⟨q1, q2, q3, q4, q5, q6, q7, q8, q9, q10, q11, q12, q13, q14, q15, w⟩ | ⟨q1, q2, q3, q4, q5, q6, q7, q8, q9, q10, q11, q12, q13, q14, q15, w⟩ | ⟨q1, q2, q3, q4, q5, q6, q7, q8, q9, q10, q11, q12, q13, w⟩ | ⟨q1, q2, q3, q4, q5, q6, q7, q8, q9, q10, q11, q12, q13, w⟩
        · exfalso; omega
        · clear q1 q2 q3 q4 q5 q6 q7 q8 q9 q10 q11 q12 q13 q14 q15
          rcases Z with ⟨z1, z2, wz⟩ | ⟨z1, z2, z3, wz⟩ | ⟨z1, z2, z3, wz⟩
          · exfalso; omega
          · clear z1 z2 z3 tb I
            obtain ⟨y1, y2, y3⟩ := tri wz
            subst y2
            rw [e1] at w
            refine ⟨_, _, w, e4 y1 y3, RRM.cu G (b' := (st : Int) + 1) (by omega) R ((((((KFX.refl _ _ _ _).set _ _ _ (by omega)).set _ _ _ (by omega)).set _ _ _ (by omega)).copy _ _ _ _ _ (by omega)).set _ _ _ (by omega)) (((KFM.cpR c5 T6 (KFM.refl _ _ _ _)).set _ _ _ (by omega)).set _ _ _ (by omega)) (((cpR_T hT c5 T6 32 (Nat.le_refl _)).a 247 _ 0 1 (by decide +kernel) (by decide +kernel) (by decide)).full 248 _ _ (by decide +kernel) (by decide +kernel)) ?_ ?_ setI_at rfl ?_ ?_ ?_ ?_ (fun j => ?_) (fun j => ?_) (tc.fr b69.2 (by omega) ⟨fun j => ⟨?_, ?_, ?_, ?_⟩, fun K j hK h1 h2 => ?_, fun j h1 h2 => ?_, fun K hK => ?_, fun j h1 h2 => ?_⟩) ⟨fun z => by omega, fun z => by omega, fun z => by omega, fun z => by omega, fun _ _ => ⟨?_, ?_, fun q j hj => ⟨?_, ?_⟩⟩, fun z => by omega⟩ (HLD.next G hc hi hp (by omega))⟩
            all_goals first | rfl | exact (cpR_out (by omega) _) | (simp (disch := omega) only [setI_at, setI_no, cpy_at, cpy_no]; done) | (exfalso; omega) | (simp (disch := omega) only [setI_at, setI_no, cpy_at, cpy_no]; first | decide | exact (cpR_out (by omega) _) | rfl | exact hv3 | exact hv | exact hcp1 _ (by assumption) | exact hcp2 _ (by assumption))
          · exfalso; omega
        · exfalso; omega
        · exfalso; omega
        · exfalso; omega
        · exfalso; omega
        · exfalso; omega
        · exfalso; omega
        · exfalso; omega
        · exfalso; omega
    · have hb0 : ((ushr (h.1 (5 + 24 * qT g c i) 1) (Int32.ofNat a &&& Int32.ofInt 31)) &&& Int32.ofInt 1).toInt ≠ 0 := fun z => hbi.mp z (tka.1.mpr y0)
      have hv := tka.2 y0
      clear hbi tka
      by_cases o1 : qO g c i = 1
      · rw [if_pos o1] at rdv
        rcases W with ⟨q1, q2, q3, q4, q5, q6, q7, q8, q9, q10, q11, q12, q13, q14, q15, w⟩ | ⟨q1, q2, q3, q4, q5, q6, q7, q8, q9, q10, q11, q12, q13, q14, q15, w⟩ | ⟨q1, q2, q3, q4, q5, q6, q7, q8, q9, q10, q11, q12, q13, q14, q15, w⟩ | ⟨q1, q2, q3, q4, q5, q6, q7, q8, q9, q10, q11, q12, q13, q14, q15, w⟩ | ⟨q1, q2, q3, q4, q5, q6, q7, q8, q9, q10, q11, q12, q13, q14, q15, w⟩ | ⟨q1, q2, q3, q4, q5, q6, q7, q8, q9, q10, q11, q12, q13, q14, q15, w⟩ | ⟨q1, q2, q3, q4, q5, q6, q7, q8, q9, q10, q11, q12, q13, q14, q15, w⟩ | ⟨q1, q2, q3, q4, q5, q6, q7, q8, q9, q10, q11, q12, q13, q14, q15, w⟩ | ⟨q1, q2, q3, q4, q5, q6, q7, q8, q9, q10, q11, q12, q13, w⟩ | ⟨q1, q2, q3, q4, q5, q6, q7, q8, q9, q10, q11, q12, q13, w⟩
        · exfalso; omega
        · exfalso; omega
        · exfalso; omega
        · exfalso; omega
        · exfalso; omega
        · exfalso; omega
        · clear q1 q2 q3 q4 q5 q6 q7 q8 q9 q10 q11 q12 q13 q14 q15
          rcases Z with ⟨z1, z2, wz⟩ | ⟨z1, z2, z3, wz⟩ | ⟨z1, z2, z3, wz⟩
          · exfalso; omega
          · exfalso; omega
          · clear z1 z2 z3 tb I
            obtain ⟨y1, y2, y3⟩ := tri wz
            subst y2
            rw [e1] at w
            refine ⟨_, _, w, e4 y1 y3, RRM.cu G (b' := (st : Int) + 1) (by omega) R ((((KFX.refl _ _ _ _).set _ _ _ (by omega)).set _ _ _ (by omega)).set _ _ _ (by omega)) (((KFM.cpR c5 T6 (KFM.refl _ _ _ _)).set _ _ _ (by omega)).set _ _ _ (by omega)) (((cpR_T hT c5 T6 32 (Nat.le_refl _)).a 247 _ 0 1 (by decide +kernel) (by decide +kernel) (by decide)).full 248 _ _ (by decide +kernel) (by decide +kernel)) ?_ ?_ setI_at rfl ?_ ?_ ?_ ?_ (fun j => ?_) (fun j => ?_) (tc.fr b69.2 (by omega) ⟨fun j => ⟨?_, ?_, ?_, ?_⟩, fun K j hK h1 h2 => ?_, fun j h1 h2 => ?_, fun K hK => ?_, fun j h1 h2 => ?_⟩) ⟨fun z => by omega, fun z => by omega, fun z => by omega, fun z => by omega, fun _ _ => ⟨?_, ?_, fun q j hj => ⟨?_, ?_⟩⟩, fun z => by omega⟩ (HLD.next G hc hi hp (by omega))⟩
            all_goals first | rfl | exact (cpR_out (by omega) _) | (simp (disch := omega) only [setI_at, setI_no, cpy_at, cpy_no]; done) | (exfalso; omega) | (simp (disch := omega) only [setI_at, setI_no, cpy_at, cpy_no]; first | decide | exact (cpR_out (by omega) _) | rfl | exact hv3 | exact hv | exact hcp1 _ (by assumption) | exact hcp2 _ (by assumption))
        · exfalso; omega
        · exfalso; omega
        · exfalso; omega
      · rw [if_neg o1] at rdv
        rcases W with ⟨q1, q2, q3, q4, q5, q6, q7, q8, q9, q10, q11, q12, q13, q14, q15, w⟩ | ⟨q1, q2, q3, q4, q5, q6, q7, q8, q9, q10, q11, q12, q13, q14, q15, w⟩ | ⟨q1, q2, q3, q4, q5, q6, q7, q8, q9, q10, q11, q12, q13, q14, q15, w⟩ | ⟨q1, q2, q3, q4, q5, q6, q7, q8, q9, q10, q11, q12, q13, q14, q15, w⟩ | ⟨q1, q2, q3, q4, q5, q6, q7, q8, q9, q10, q11, q12, q13, q14, q15, w⟩ | ⟨q1, q2, q3, q4, q5, q6, q7, q8, q9, q10, q11, q12, q13, q14, q15, w⟩ | ⟨q1, q2, q3, q4, q5, q6, q7, q8, q9, q10, q11, q12, q13, q14, q15, w⟩ | ⟨q1, q2, q3, q4, q5, q6, q7, q8, q9, q10, q11, q12, q13, q14, q15, w⟩ | ⟨q1, q2, q3, q4, q5, q6, q7, q8, q9, q10, q11, q12, q13, w⟩ | ⟨q1, q2, q3, q4, q5, q6, q7, q8, q9, q10, q11, q12, q13, w⟩
        · exfalso; omega
        · exfalso; omega
        · exfalso; omega
        · exfalso; omega
        · exfalso; omega
        · exfalso; omega
        · exfalso; omega
        · clear q1 q2 q3 q4 q5 q6 q7 q8 q9 q10 q11 q12 q13 q14 q15
          rcases Z with ⟨z1, z2, wz⟩ | ⟨z1, z2, z3, wz⟩ | ⟨z1, z2, z3, wz⟩
          · exfalso; omega
          · exfalso; omega
          · clear z1 z2 z3 tb I
            obtain ⟨y1, y2, y3⟩ := tri wz
            subst y2
            rw [e1] at w
            refine ⟨_, _, w, e4 y1 y3, RRM.cu G (b' := (st : Int) + 1) (by omega) R ((((((KFX.refl _ _ _ _).set _ _ _ (by omega)).set _ _ _ (by omega)).set _ _ _ (by omega)).copy _ _ _ _ _ (by omega)).set _ _ _ (by omega)) (((KFM.cpR c5 T6 (KFM.refl _ _ _ _)).set _ _ _ (by omega)).set _ _ _ (by omega)) (((cpR_T hT c5 T6 32 (Nat.le_refl _)).a 247 _ 0 1 (by decide +kernel) (by decide +kernel) (by decide)).full 248 _ _ (by decide +kernel) (by decide +kernel)) ?_ ?_ setI_at rfl ?_ ?_ ?_ ?_ (fun j => ?_) (fun j => ?_) (tc.fr b69.2 (by omega) ⟨fun j => ⟨?_, ?_, ?_, ?_⟩, fun K j hK h1 h2 => ?_, fun j h1 h2 => ?_, fun K hK => ?_, fun j h1 h2 => ?_⟩) ⟨fun z => by omega, fun z => by omega, fun z => by omega, fun z => by omega, fun _ _ => ⟨?_, ?_, fun q j hj => ⟨?_, ?_⟩⟩, fun z => by omega⟩ (HLD.next G hc hi hp (by omega))⟩
            all_goals first | rfl | exact (cpR_out (by omega) _) | (simp (disch := omega) only [setI_at, setI_no, cpy_at, cpy_no]; done) | (exfalso; omega) | (simp (disch := omega) only [setI_at, setI_no, cpy_at, cpy_no]; first | decide | exact (cpR_out (by omega) _) | rfl | exact hv3 | exact hv | exact hcp1 _ (by assumption) | exact hcp2 _ (by assumption))
        · exfalso; omega
        · exfalso; omega
