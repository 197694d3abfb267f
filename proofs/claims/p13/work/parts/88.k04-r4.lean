
set_option maxRecDepth 20000
/-! STEPS ON BOTH SIDES: READ -/

theorem z_c161 {d : Nat} {h : Hp} {c x st m bare : Int32} {r : Option Value × Hp × Nat} (e : Ev d 158 (186, [some (.ref 223), some (.int c), some (.int x), some (.int st), some (.int m), some (.int bare)], [.int x, .int c, .ref 223], h, fl_tot) r) : ∃ d' v h2 n2, Ev d' 161 (0, [some (.ref 223), some (.int c), some (.int x), none, none, none, none, none], [], h, fl_tot) (v, h2, n2) ∧ (v = none → n2 = fl_tot → Ev d 158 (256, [some (.ref 223), some (.int c), some (.int x), some (.int st), some (.int m), some (.int bare)], [], h2, fl_tot) r) := by
  obtain ⟨d', v, h2, n2, -, ec, e⟩ := b_call (m2 := 161) (k := 2) (nL := 8) (as := [.ref 223, .int c, .int x]) (rest := []) (L := [some (.ref 223), some (.int c), some (.int x), none, none, none, none, none]) e (show fl_code 158 186 = some (18, [((161 : Nat) : Int), ((2 : Nat) : Int)], 189) by decide +kernel) rfl (by decide +kernel) rfl rfl rfl
  refine ⟨d', v, h2, n2, ec, fun z1 z2 => ?_⟩
  rw [z1, z2] at e
  have e : Ev d 158 (189, [some (.ref 223), some (.int c), some (.int x), some (.int st), some (.int m), some (.int bare)], [], h2, fl_tot) r := e
  exact e.bk [((8, [256], 192), 0)] [] (by decide +kernel) trivial rfl

theorem z_c167 {d : Nat} {h : Hp} {c x st m bare : Int32} {r : Option Value × Hp × Nat} (e : Ev d 158 (200, [some (.ref 223), some (.int c), some (.int x), some (.int st), some (.int m), some (.int bare)], [.int x, .int c, .ref 223], h, fl_tot) r) : ∃ d' v h2 n2, Ev d' 167 (0, [some (.ref 223), some (.int c), some (.int x), none, none, none], [], h, fl_tot) (v, h2, n2) ∧ (v = none → n2 = fl_tot → Ev d 158 (256, [some (.ref 223), some (.int c), some (.int x), some (.int st), some (.int m), some (.int bare)], [], h2, fl_tot) r) := by
  obtain ⟨d', v, h2, n2, -, ec, e⟩ := b_call (m2 := 167) (k := 2) (nL := 6) (as := [.ref 223, .int c, .int x]) (rest := []) (L := [some (.ref 223), some (.int c), some (.int x), none, none, none]) e (show fl_code 158 200 = some (18, [((167 : Nat) : Int), ((2 : Nat) : Int)], 203) by decide +kernel) rfl (by decide +kernel) rfl rfl rfl
  refine ⟨d', v, h2, n2, ec, fun z1 z2 => ?_⟩
  rw [z1, z2] at e
  have e : Ev d 158 (203, [some (.ref 223), some (.int c), some (.int x), some (.int st), some (.int m), some (.int bare)], [], h2, fl_tot) r := e
  exact e.bk [((8, [256], 206), 0)] [] (by decide +kernel) trivial rfl

theorem z_c169 {d : Nat} {h : Hp} {c x st m bare : Int32} {r : Option Value × Hp × Nat} (e : Ev d 158 (214, [some (.ref 223), some (.int c), some (.int x), some (.int st), some (.int m), some (.int bare)], [.int x, .int c, .ref 223], h, fl_tot) r) : ∃ d' v h2 n2, Ev d' 169 (0, [some (.ref 223), some (.int c), some (.int x), none, none, none, none], [], h, fl_tot) (v, h2, n2) ∧ (v = none → n2 = fl_tot → Ev d 158 (256, [some (.ref 223), some (.int c), some (.int x), some (.int st), some (.int m), some (.int bare)], [], h2, fl_tot) r) := by
  obtain ⟨d', v, h2, n2, -, ec, e⟩ := b_call (m2 := 169) (k := 2) (nL := 7) (as := [.ref 223, .int c, .int x]) (rest := []) (L := [some (.ref 223), some (.int c), some (.int x), none, none, none, none]) e (show fl_code 158 214 = some (18, [((169 : Nat) : Int), ((2 : Nat) : Int)], 217) by decide +kernel) rfl (by decide +kernel) rfl rfl rfl
  refine ⟨d', v, h2, n2, ec, fun z1 z2 => ?_⟩
  rw [z1, z2] at e
  have e : Ev d 158 (217, [some (.ref 223), some (.int c), some (.int x), some (.int st), some (.int m), some (.int bare)], [], h2, fl_tot) r := e
  exact e.bk [((8, [256], 220), 0)] [] (by decide +kernel) trivial rfl

theorem cpy_at {h : Hp} {a sp b dp n k : Nat} (hk : dp ≤ k ∧ k < dp + n) : (fl_copy h a sp b dp n).1 b k = h.1 a (sp + (k - dp)) := by
  show (if b = b then (if dp ≤ k ∧ k < dp + n then h.1 a (sp + (k - dp)) else h.1 b k) else h.1 b k) = _
  rw [if_pos rfl, if_pos hk]
theorem cpy_no {h : Hp} {a sp b dp n r k : Nat} (hr : ¬ (r = b ∧ dp ≤ k ∧ k < dp + n)) : (fl_copy h a sp b dp n).1 r k = h.1 r k := by
  show (if r = b then (if dp ≤ k ∧ k < dp + n then h.1 a (sp + (k - dp)) else h.1 b k) else h.1 r k) = _
  by_cases y : r = b
  · rw [if_pos y, if_neg (fun z => hr ⟨y, z⟩), y]
  · rw [if_neg y]
theorem KFX.copy {c i t : Nat} {h h' : Hp} (x : KFX c i t h h') (a sp b dp n : Nat) (ok : (b = 150 + 12 * c ∨ b = 151 + 12 * c) ∨ (4 + 24 * t < b ∧ b < 12 + 24 * t ∧ b ≠ 9 + 24 * t)) : KFX c i t h (fl_copy h' a sp b dp n) := by
  refine ⟨fun r' j' z1 z2 z3 => ?_, x.2⟩
  have hn : r' ≠ b := by
    rintro rfl
    rcases ok with ok | ok
    · exact z2 ok
    · exact z3 (by omega)
  rw [cpy_no (by omega)]
  exact x.1 r' j' z1 z2 z3
theorem rg0 (s : Int32) : rg s 0 = (s &&& Int32.ofInt 63).toNatClampNeg := by
  unfold rg
  rw [show s + Int32.ofNat 0 = s from Int32.add_zero s]

theorem go_read_q {g h hm : Hp} {st c i p d d2 : Nat} {s : Int32} {r r2 : Option Value × Hp × Nat} (G : GS g) (R : RRM g h hm st c i st (CUn g h hm c i p p p)) (hp : p < stLen (qJ g c i)) (hC : stC (qJ g c i) p = 2) (hk : qK g c i = 1) (e : Ev d 45 (0, [some (.ref 208), some (.ref (148 + 12 * c)), some (.ref (152 + 12 * c + i)), some (.int s), none], [], h, fl_tot) r) (e2 : Ev d2 158 (113, lsM g c i p, [], hm, fl_tot) r2) : GO g st c i p (lsM g c i p) (fun h' hm' => CUn g h' hm' c i (p + 1) p (p + 1)) d2 r r2 := by
  obtain ⟨⟨X, M, S15, K, hT⟩, RT, RO, hc, hi, CK, b1, b2, ⟨u1, u2⟩, u3, u4, u5, u6, u7, u8⟩ := id R
  have c5 := G.c5 hc
  have i8 := G.i8 hc hi
  have T6 := G.T6 hc hi
  have hJ := G.len hc hi
  obtain ⟨p10, hp0, hpl, hcd⟩ := cx G X hc hi (by omega) hp u3 u5
  obtain ⟨eF, eK⟩ := cF G X hc hi
  obtain ⟨s1, s2, s3, s4, s5, s6, s7⟩ := SM.st G M hc hi
  obtain ⟨tc, ow1, ow2⟩ := RT _ (G.T hc hi)
  have I := G.inn hc hi hp
  have tb := G.tb hc hi hp
  have e1 : h.1 (152 + 12 * c + i) 9 + Int32.ofInt 1 = Int32.ofNat (p + 1) := by rw [u3, o32 (by omega)]
  have ex : (Int32.ofNat (8 * c + i)).toNatClampNeg = 8 * c + i := o32c (by omega)
  have ecn : (Int32.ofNat c).toNatClampNeg = c := o32c (by omega)
  have eTn : (Int32.ofNat (qT g c i)).toNatClampNeg = qT g c i := o32c (by omega)
  have b69 := TI.rng hT 69 6 0 40 (by decide +kernel) (by decide) (by decide) T6
  have kg : (g.1 224 (qT g c i)).toInt = 1 := hk
  have eO : (g.1 229 (8 * c + i)).toInt = qO g c i := rfl
  have c1 := i32_1
  have c0 := i32_0
  have op1 : 0 ≤ qO g c i ∧ qO g c i ≤ 1 := by
    obtain ⟨-, -, o3, o4⟩ := G.op hc hi
    rw [hk] at o4
    exact ⟨o3, o4⟩
  have kS : (Int32.ofInt (qS g c i p)).toInt = 1 := by rw [I.1, hC]; rfl
  have W := y_go_read_queue (X.sq (G.c5 hc)) (G.T6 hc hi) (G.c5 hc) (G.i8 hc hi) (X.ak G hc hi) hp0 hpl (by rw [hcd]; exact hC) (by rw [eK]; exact hk) e
  obtain ⟨-, -, -, e2⟩ := z_does_read (h := hm) (c := Int32.ofNat c) (x := Int32.ofNat (8 * c + i)) M.1 kS e2
  obtain ⟨d3, v3, h3, n3, e3, e4⟩ := z_c161 e2
  have Z := z_read_queue M.1 (t := Int32.ofNat (qT g c i)) (op := g.1 229 (8 * c + i)) (a := g.1 230 (8 * c + i)) (by rw [ex]; exact s2) (by rw [ex]; exact s5) (by rw [ex]; exact s6) (by rw [eTn, s3]; exact hk) e3
  rw [eTn, ecn, i48z T6, s3] at Z
  have tq := tc.2.1 (Or.inl kg)
  have tl := congrArg Int32.toInt tq.1
  have hv : 0 < (hm.1 261 (qT g c i)).toInt → h.1 (6 + 24 * qT g c i) (h.1 (5 + 24 * qT g c i) 2 &&& Int32.ofInt 63).toNatClampNeg = hm.1 260 (48 * qT g c i) := fun z => by
    rw [← rg0]
    exact tq.2.1 0 z
  rcases W with ⟨q1, q2, q3, q4, q5, q6, q7, q8, q9, q10, w⟩ | ⟨q1, q2, q3, q4, q5, q6, q7, q8, q9, q10, w⟩ | ⟨q1, q2, q3, q4, q5, q6, q7, q8, q9, q10, q11, w⟩ | ⟨q1, q2, q3, q4, q5, q6, q7, q8, q9, q10, q11, w⟩ | ⟨q1, q2, q3, q4, q5, q6, q7, q8, q9, q10, q11, w⟩ | ⟨q1, q2, q3, q4, q5, q6, q7, q8, q9, q10, q11, w⟩
  · exfalso; omega
  · rcases Z with ⟨z1, z2, z3, wz⟩ | ⟨z1, z2, z3, z4, wz⟩ | ⟨z1, z2, z3, z4, wz⟩
    · first
      | (exfalso; omega)
      | (obtain ⟨y1, y2, y3⟩ := tri wz
         subst y2
         rw [e1] at w
         refine ⟨_, _, w, e4 y1 y3, RRM.cu G (b' := (st : Int) + 1) (by omega) R ((((KFX.refl _ _ _ _).set _ _ _ (by omega)).set _ _ _ (by omega)).set _ _ _ (by omega)) (((KFM.refl _ _ _ _).set _ _ _ (by omega)).set _ _ _ (by omega)) ((hT.a 247 _ 0 1 (by decide +kernel) (by decide +kernel) (by decide)).full 248 _ _ (by decide +kernel) (by decide +kernel)) ?_ ?_ setI_at rfl ?_ ?_ ?_ ?_ (fun j => ?_) (fun j => ?_) (tc.fr b69.2 (by omega) ⟨fun j => ⟨?_, ?_, ?_, ?_⟩, fun K j hK h1 h2 => ?_, fun j h1 h2 => ?_, fun K hK => ?_, fun j h1 h2 => ?_⟩) ⟨fun z => by omega, fun _ _ => ⟨fun q => ⟨?_, ?_⟩, fun q => ⟨?_, ?_⟩⟩, fun z => by omega, fun z => by omega, fun z => by omega, fun z => by omega⟩ (HLD.next G hc hi hp (by omega))⟩
         all_goals first | (exfalso; omega) | (simp (disch := omega) only [setI_at, setI_no, cpy_at, cpy_no]; done) | (simp (disch := omega) only [setI_at, setI_no, cpy_at, cpy_no]; first | decide | exact hv (by omega) | rfl))
    · first
      | (exfalso; omega)
      | (obtain ⟨y1, y2, y3⟩ := tri wz
         subst y2
         rw [e1] at w
         refine ⟨_, _, w, e4 y1 y3, RRM.cu G (b' := (st : Int) + 1) (by omega) R ((((KFX.refl _ _ _ _).set _ _ _ (by omega)).set _ _ _ (by omega)).set _ _ _ (by omega)) (((KFM.refl _ _ _ _).set _ _ _ (by omega)).set _ _ _ (by omega)) ((hT.a 247 _ 0 1 (by decide +kernel) (by decide +kernel) (by decide)).full 248 _ _ (by decide +kernel) (by decide +kernel)) ?_ ?_ setI_at rfl ?_ ?_ ?_ ?_ (fun j => ?_) (fun j => ?_) (tc.fr b69.2 (by omega) ⟨fun j => ⟨?_, ?_, ?_, ?_⟩, fun K j hK h1 h2 => ?_, fun j h1 h2 => ?_, fun K hK => ?_, fun j h1 h2 => ?_⟩) ⟨fun z => by omega, fun _ _ => ⟨fun q => ⟨?_, ?_⟩, fun q => ⟨?_, ?_⟩⟩, fun z => by omega, fun z => by omega, fun z => by omega, fun z => by omega⟩ (HLD.next G hc hi hp (by omega))⟩
         all_goals first | (exfalso; omega) | (simp (disch := omega) only [setI_at, setI_no, cpy_at, cpy_no]; done) | (simp (disch := omega) only [setI_at, setI_no, cpy_at, cpy_no]; first | decide | exact hv (by omega) | rfl))
    · first
      | (exfalso; omega)
      | (obtain ⟨y1, y2, y3⟩ := tri wz
         subst y2
         rw [e1] at w
         refine ⟨_, _, w, e4 y1 y3, RRM.cu G (b' := (st : Int) + 1) (by omega) R ((((KFX.refl _ _ _ _).set _ _ _ (by omega)).set _ _ _ (by omega)).set _ _ _ (by omega)) (((KFM.refl _ _ _ _).set _ _ _ (by omega)).set _ _ _ (by omega)) ((hT.a 247 _ 0 1 (by decide +kernel) (by decide +kernel) (by decide)).full 248 _ _ (by decide +kernel) (by decide +kernel)) ?_ ?_ setI_at rfl ?_ ?_ ?_ ?_ (fun j => ?_) (fun j => ?_) (tc.fr b69.2 (by omega) ⟨fun j => ⟨?_, ?_, ?_, ?_⟩, fun K j hK h1 h2 => ?_, fun j h1 h2 => ?_, fun K hK => ?_, fun j h1 h2 => ?_⟩) ⟨fun z => by omega, fun _ _ => ⟨fun q => ⟨?_, ?_⟩, fun q => ⟨?_, ?_⟩⟩, fun z => by omega, fun z => by omega, fun z => by omega, fun z => by omega⟩ (HLD.next G hc hi hp (by omega))⟩
         all_goals first | (exfalso; omega) | (simp (disch := omega) only [setI_at, setI_no, cpy_at, cpy_no]; done) | (simp (disch := omega) only [setI_at, setI_no, cpy_at, cpy_no]; first | decide | exact hv (by omega) | rfl))
  · rcases Z with ⟨z1, z2, z3, wz⟩ | ⟨z1, z2, z3, z4, wz⟩ | ⟨z1, z2, z3, z4, wz⟩
    · first
      | (exfalso; omega)
      | (obtain ⟨y1, y2, y3⟩ := tri wz
         subst y2
         rw [e1] at w
         refine ⟨_, _, w, e4 y1 y3, RRM.cu G (b' := (st : Int) + 1) (by omega) R ((((KFX.refl _ _ _ _).set _ _ _ (by omega)).set _ _ _ (by omega)).set _ _ _ (by omega)) (((KFM.refl _ _ _ _).set _ _ _ (by omega)).set _ _ _ (by omega)) ((hT.a 247 _ 0 1 (by decide +kernel) (by decide +kernel) (by decide)).full 248 _ _ (by decide +kernel) (by decide +kernel)) ?_ ?_ setI_at rfl ?_ ?_ ?_ ?_ (fun j => ?_) (fun j => ?_) (tc.fr b69.2 (by omega) ⟨fun j => ⟨?_, ?_, ?_, ?_⟩, fun K j hK h1 h2 => ?_, fun j h1 h2 => ?_, fun K hK => ?_, fun j h1 h2 => ?_⟩) ⟨fun z => by omega, fun _ _ => ⟨fun q => ⟨?_, ?_⟩, fun q => ⟨?_, ?_⟩⟩, fun z => by omega, fun z => by omega, fun z => by omega, fun z => by omega⟩ (HLD.next G hc hi hp (by omega))⟩
         all_goals first | (exfalso; omega) | (simp (disch := omega) only [setI_at, setI_no, cpy_at, cpy_no]; done) | (simp (disch := omega) only [setI_at, setI_no, cpy_at, cpy_no]; first | decide | exact hv (by omega) | rfl))
    · first
      | (exfalso; omega)
      | (obtain ⟨y1, y2, y3⟩ := tri wz
         subst y2
         rw [e1] at w
         refine ⟨_, _, w, e4 y1 y3, RRM.cu G (b' := (st : Int) + 1) (by omega) R ((((KFX.refl _ _ _ _).set _ _ _ (by omega)).set _ _ _ (by omega)).set _ _ _ (by omega)) (((KFM.refl _ _ _ _).set _ _ _ (by omega)).set _ _ _ (by omega)) ((hT.a 247 _ 0 1 (by decide +kernel) (by decide +kernel) (by decide)).full 248 _ _ (by decide +kernel) (by decide +kernel)) ?_ ?_ setI_at rfl ?_ ?_ ?_ ?_ (fun j => ?_) (fun j => ?_) (tc.fr b69.2 (by omega) ⟨fun j => ⟨?_, ?_, ?_, ?_⟩, fun K j hK h1 h2 => ?_, fun j h1 h2 => ?_, fun K hK => ?_, fun j h1 h2 => ?_⟩) ⟨fun z => by omega, fun _ _ => ⟨fun q => ⟨?_, ?_⟩, fun q => ⟨?_, ?_⟩⟩, fun z => by omega, fun z => by omega, fun z => by omega, fun z => by omega⟩ (HLD.next G hc hi hp (by omega))⟩
         all_goals first | (exfalso; omega) | (simp (disch := omega) only [setI_at, setI_no, cpy_at, cpy_no]; done) | (simp (disch := omega) only [setI_at, setI_no, cpy_at, cpy_no]; first | decide | exact hv (by omega) | rfl))
    · first
      | (exfalso; omega)
      | (obtain ⟨y1, y2, y3⟩ := tri wz
         subst y2
         rw [e1] at w
         refine ⟨_, _, w, e4 y1 y3, RRM.cu G (b' := (st : Int) + 1) (by omega) R ((((KFX.refl _ _ _ _).set _ _ _ (by omega)).set _ _ _ (by omega)).set _ _ _ (by omega)) (((KFM.refl _ _ _ _).set _ _ _ (by omega)).set _ _ _ (by omega)) ((hT.a 247 _ 0 1 (by decide +kernel) (by decide +kernel) (by decide)).full 248 _ _ (by decide +kernel) (by decide +kernel)) ?_ ?_ setI_at rfl ?_ ?_ ?_ ?_ (fun j => ?_) (fun j => ?_) (tc.fr b69.2 (by omega) ⟨fun j => ⟨?_, ?_, ?_, ?_⟩, fun K j hK h1 h2 => ?_, fun j h1 h2 => ?_, fun K hK => ?_, fun j h1 h2 => ?_⟩) ⟨fun z => by omega, fun _ _ => ⟨fun q => ⟨?_, ?_⟩, fun q => ⟨?_, ?_⟩⟩, fun z => by omega, fun z => by omega, fun z => by omega, fun z => by omega⟩ (HLD.next G hc hi hp (by omega))⟩
         all_goals first | (exfalso; omega) | (simp (disch := omega) only [setI_at, setI_no, cpy_at, cpy_no]; done) | (simp (disch := omega) only [setI_at, setI_no, cpy_at, cpy_no]; first | decide | exact hv (by omega) | rfl))
  · exfalso; omega
  · exfalso; omega
  · rcases Z with ⟨z1, z2, z3, wz⟩ | ⟨z1, z2, z3, z4, wz⟩ | ⟨z1, z2, z3, z4, wz⟩
    · first
      | (exfalso; omega)
      | (obtain ⟨y1, y2, y3⟩ := tri wz
         subst y2
         rw [e1] at w
         refine ⟨_, _, w, e4 y1 y3, RRM.cu G (b' := (st : Int) + 1) (by omega) R ((((KFX.refl _ _ _ _).set _ _ _ (by omega)).set _ _ _ (by omega)).set _ _ _ (by omega)) (((KFM.refl _ _ _ _).set _ _ _ (by omega)).set _ _ _ (by omega)) ((hT.a 247 _ 0 1 (by decide +kernel) (by decide +kernel) (by decide)).full 248 _ _ (by decide +kernel) (by decide +kernel)) ?_ ?_ setI_at rfl ?_ ?_ ?_ ?_ (fun j => ?_) (fun j => ?_) (tc.fr b69.2 (by omega) ⟨fun j => ⟨?_, ?_, ?_, ?_⟩, fun K j hK h1 h2 => ?_, fun j h1 h2 => ?_, fun K hK => ?_, fun j h1 h2 => ?_⟩) ⟨fun z => by omega, fun _ _ => ⟨fun q => ⟨?_, ?_⟩, fun q => ⟨?_, ?_⟩⟩, fun z => by omega, fun z => by omega, fun z => by omega, fun z => by omega⟩ (HLD.next G hc hi hp (by omega))⟩
         all_goals first | (exfalso; omega) | (simp (disch := omega) only [setI_at, setI_no, cpy_at, cpy_no]; done) | (simp (disch := omega) only [setI_at, setI_no, cpy_at, cpy_no]; first | decide | exact hv (by omega) | rfl))
    · first
      | (exfalso; omega)
      | (obtain ⟨y1, y2, y3⟩ := tri wz
         subst y2
         rw [e1] at w
         refine ⟨_, _, w, e4 y1 y3, RRM.cu G (b' := (st : Int) + 1) (by omega) R ((((KFX.refl _ _ _ _).set _ _ _ (by omega)).set _ _ _ (by omega)).set _ _ _ (by omega)) (((KFM.refl _ _ _ _).set _ _ _ (by omega)).set _ _ _ (by omega)) ((hT.a 247 _ 0 1 (by decide +kernel) (by decide +kernel) (by decide)).full 248 _ _ (by decide +kernel) (by decide +kernel)) ?_ ?_ setI_at rfl ?_ ?_ ?_ ?_ (fun j => ?_) (fun j => ?_) (tc.fr b69.2 (by omega) ⟨fun j => ⟨?_, ?_, ?_, ?_⟩, fun K j hK h1 h2 => ?_, fun j h1 h2 => ?_, fun K hK => ?_, fun j h1 h2 => ?_⟩) ⟨fun z => by omega, fun _ _ => ⟨fun q => ⟨?_, ?_⟩, fun q => ⟨?_, ?_⟩⟩, fun z => by omega, fun z => by omega, fun z => by omega, fun z => by omega⟩ (HLD.next G hc hi hp (by omega))⟩
         all_goals first | (exfalso; omega) | (simp (disch := omega) only [setI_at, setI_no, cpy_at, cpy_no]; done) | (simp (disch := omega) only [setI_at, setI_no, cpy_at, cpy_no]; first | decide | exact hv (by omega) | rfl))
    · first
      | (exfalso; omega)
      | (obtain ⟨y1, y2, y3⟩ := tri wz
         subst y2
         rw [e1] at w
         refine ⟨_, _, w, e4 y1 y3, RRM.cu G (b' := (st : Int) + 1) (by omega) R ((((KFX.refl _ _ _ _).set _ _ _ (by omega)).set _ _ _ (by omega)).set _ _ _ (by omega)) (((KFM.refl _ _ _ _).set _ _ _ (by omega)).set _ _ _ (by omega)) ((hT.a 247 _ 0 1 (by decide +kernel) (by decide +kernel) (by decide)).full 248 _ _ (by decide +kernel) (by decide +kernel)) ?_ ?_ setI_at rfl ?_ ?_ ?_ ?_ (fun j => ?_) (fun j => ?_) (tc.fr b69.2 (by omega) ⟨fun j => ⟨?_, ?_, ?_, ?_⟩, fun K j hK h1 h2 => ?_, fun j h1 h2 => ?_, fun K hK => ?_, fun j h1 h2 => ?_⟩) ⟨fun z => by omega, fun _ _ => ⟨fun q => ⟨?_, ?_⟩, fun q => ⟨?_, ?_⟩⟩, fun z => by omega, fun z => by omega, fun z => by omega, fun z => by omega⟩ (HLD.next G hc hi hp (by omega))⟩
         all_goals first | (exfalso; omega) | (simp (disch := omega) only [setI_at, setI_no, cpy_at, cpy_no]; done) | (simp (disch := omega) only [setI_at, setI_no, cpy_at, cpy_no]; first | decide | exact hv (by omega) | rfl))

theorem go_read_c {g h hm : Hp} {st c i p d d2 : Nat} {s : Int32} {r r2 : Option Value × Hp × Nat} (G : GS g) (R : RRM g h hm st c i st (CUn g h hm c i p p p)) (hp : p < stLen (qJ g c i)) (hC : stC (qJ g c i) p = 2) (hk : qK g c i = 3) (e : Ev d 45 (0, [some (.ref 208), some (.ref (148 + 12 * c)), some (.ref (152 + 12 * c + i)), some (.int s), none], [], h, fl_tot) r) (e2 : Ev d2 158 (113, lsM g c i p, [], hm, fl_tot) r2) : GO g st c i p (lsM g c i p) (fun h' hm' => CUn g h' hm' c i (p + 1) p (p + 1)) d2 r r2 := by
  obtain ⟨⟨X, M, S15, K, hT⟩, RT, RO, hc, hi, CK, b1, b2, ⟨u1, u2⟩, u3, u4, u5, u6, u7, u8⟩ := id R
  have c5 := G.c5 hc
  have i8 := G.i8 hc hi
  have T6 := G.T6 hc hi
  have hJ := G.len hc hi
  obtain ⟨p10, hp0, hpl, hcd⟩ := cx G X hc hi (by omega) hp u3 u5
  obtain ⟨eF, eK⟩ := cF G X hc hi
  obtain ⟨s1, s2, s3, s4, s5, s6, s7⟩ := SM.st G M hc hi
  obtain ⟨tc, ow1, ow2⟩ := RT _ (G.T hc hi)
  have I := G.inn hc hi hp
  have tb := G.tb hc hi hp
  have e1 : h.1 (152 + 12 * c + i) 9 + Int32.ofInt 1 = Int32.ofNat (p + 1) := by rw [u3, o32 (by omega)]
  have ex : (Int32.ofNat (8 * c + i)).toNatClampNeg = 8 * c + i := o32c (by omega)
  have ecn : (Int32.ofNat c).toNatClampNeg = c := o32c (by omega)
  have eTn : (Int32.ofNat (qT g c i)).toNatClampNeg = qT g c i := o32c (by omega)
  have b69 := TI.rng hT 69 6 0 40 (by decide +kernel) (by decide) (by decide) T6
  have kg : (g.1 224 (qT g c i)).toInt = 3 := hk
  have eO : (g.1 229 (8 * c + i)).toInt = qO g c i := rfl
  have c1 := i32_1
  have c0 := i32_0
  have op1 : 0 ≤ qO g c i ∧ qO g c i ≤ 1 := by
    obtain ⟨-, -, o3, o4⟩ := G.op hc hi
    rw [hk] at o4
    exact ⟨o3, o4⟩
  have kS : (Int32.ofInt (qS g c i p)).toInt = 1 := by rw [I.1, hC]; rfl
  have a8 := (CK.2.2.1 i (Nat.le_refl _) hi).1
  have W := y_go_read_counter (X.sq (G.c5 hc)) (G.T6 hc hi) (G.c5 hc) (G.i8 hc hi) (X.ak G hc hi) hp0 hpl (by rw [hcd]; exact hC) (by rw [eK]; exact hk) e
  obtain ⟨-, -, -, e2⟩ := z_does_read (h := hm) (c := Int32.ofNat c) (x := Int32.ofNat (8 * c + i)) M.1 kS e2
  obtain ⟨d3, v3, h3, n3, e3, e4⟩ := z_c161 e2
  have Z := z_read_counter M.1 (t := Int32.ofNat (qT g c i)) (op := g.1 229 (8 * c + i)) (a := g.1 230 (8 * c + i)) (by rw [ex]; exact s2) (by rw [ex]; exact s5) (by rw [ex]; exact s6) (by rw [eTn, s3]; exact hk) e3
  rw [eTn, ecn, i4z T6, show Int32.ofInt 1 = Int32.ofNat 1 from rfl, show Int32.ofInt 2 = Int32.ofNat 2 from rfl, show Int32.ofInt 3 = Int32.ofNat 3 from rfl, i4 (by omega) (by decide), i4 (by omega) (by decide), i4 (by omega) (by decide), i4m T6 c5, s3] at Z
  have ts := tc.2.2.1 kg
  have hv : qO g c i = 0 → h.1 (6 + 24 * qT g c i) (h.1 (152 + 12 * c + i) 8 &&& Int32.ofInt 31).toNatClampNeg = hm.1 263 (4 * qT g c i + c % 4) := fun z => by
    have em : monI (qK g c i) (qO g c i) (qA g c i) c = (c : Int) % 4 := by
      unfold monI
      rw [hk, z]
      rfl
    rw [a8, em, i31k (by omega) (by omega), show ((c : Int) % 4).toNat = c % 4 by omega]
    exact ts _ (by omega)
  have hv2 : h.1 (6 + 24 * qT g c i) 0 + h.1 (6 + 24 * qT g c i) 1 + h.1 (6 + 24 * qT g c i) 2 + h.1 (6 + 24 * qT g c i) 3 = hm.1 263 (4 * qT g c i) + hm.1 263 (4 * qT g c i + 1) + hm.1 263 (4 * qT g c i + 2) + hm.1 263 (4 * qT g c i + 3) := by
    rw [show h.1 (6 + 24 * qT g c i) 0 = hm.1 263 (4 * qT g c i) from ts 0 (by decide), ts 1 (by decide), ts 2 (by decide), ts 3 (by decide)]
  rcases W with ⟨q1, q2, q3, q4, q5, q6, q7, q8, q9, q10, q11, q12, w⟩ | ⟨q1, q2, q3, q4, q5, q6, q7, q8, q9, q10, q11, q12, w⟩ | ⟨q1, q2, q3, q4, q5, q6, q7, q8, q9, q10, q11, q12, w⟩ | ⟨q1, q2, q3, q4, q5, q6, q7, q8, q9, q10, q11, q12, w⟩
  · exfalso; omega
  · rcases Z with ⟨z1, z2, z3, z4, z5, wz⟩ | ⟨z1, z2, z3, z4, z5, wz⟩
    · first
      | (exfalso; omega)
      | (obtain ⟨y1, y2, y3⟩ := tri wz
         subst y2
         rw [e1] at w
         refine ⟨_, _, w, e4 y1 y3, RRM.cu G (b' := (st : Int) + 1) (by omega) R ((((KFX.refl _ _ _ _).set _ _ _ (by omega)).set _ _ _ (by omega)).set _ _ _ (by omega)) ((KFM.refl _ _ _ _).set _ _ _ (by omega)) (hT.full 248 _ _ (by decide +kernel) (by decide +kernel)) ?_ ?_ setI_at rfl ?_ ?_ ?_ ?_ (fun j => ?_) (fun j => ?_) (tc.fr b69.2 (by omega) ⟨fun j => ⟨?_, ?_, ?_, ?_⟩, fun K j hK h1 h2 => ?_, fun j h1 h2 => ?_, fun K hK => ?_, fun j h1 h2 => ?_⟩) ⟨fun z => by omega, fun z => by omega, fun z => by omega, fun _ _ => ⟨?_, ?_⟩, fun z => by omega, fun z => by omega⟩ (HLD.next G hc hi hp (by omega))⟩
         all_goals first | (exfalso; omega) | (simp (disch := omega) only [setI_at, setI_no, cpy_at, cpy_no]; done) | (simp (disch := omega) only [setI_at, setI_no, cpy_at, cpy_no]; first | decide | exact hv (by omega) | exact hv2 | rfl))
    · first
      | (exfalso; omega)
      | (obtain ⟨y1, y2, y3⟩ := tri wz
         subst y2
         rw [e1] at w
         refine ⟨_, _, w, e4 y1 y3, RRM.cu G (b' := (st : Int) + 1) (by omega) R ((((KFX.refl _ _ _ _).set _ _ _ (by omega)).set _ _ _ (by omega)).set _ _ _ (by omega)) ((KFM.refl _ _ _ _).set _ _ _ (by omega)) (hT.full 248 _ _ (by decide +kernel) (by decide +kernel)) ?_ ?_ setI_at rfl ?_ ?_ ?_ ?_ (fun j => ?_) (fun j => ?_) (tc.fr b69.2 (by omega) ⟨fun j => ⟨?_, ?_, ?_, ?_⟩, fun K j hK h1 h2 => ?_, fun j h1 h2 => ?_, fun K hK => ?_, fun j h1 h2 => ?_⟩) ⟨fun z => by omega, fun z => by omega, fun z => by omega, fun _ _ => ⟨?_, ?_⟩, fun z => by omega, fun z => by omega⟩ (HLD.next G hc hi hp (by omega))⟩
         all_goals first | (exfalso; omega) | (simp (disch := omega) only [setI_at, setI_no, cpy_at, cpy_no]; done) | (simp (disch := omega) only [setI_at, setI_no, cpy_at, cpy_no]; first | decide | exact hv (by omega) | exact hv2 | rfl))
  · exfalso; omega
  · rcases Z with ⟨z1, z2, z3, z4, z5, wz⟩ | ⟨z1, z2, z3, z4, z5, wz⟩
    · first
      | (exfalso; omega)
      | (obtain ⟨y1, y2, y3⟩ := tri wz
         subst y2
         rw [e1] at w
         refine ⟨_, _, w, e4 y1 y3, RRM.cu G (b' := (st : Int) + 1) (by omega) R ((((KFX.refl _ _ _ _).set _ _ _ (by omega)).set _ _ _ (by omega)).set _ _ _ (by omega)) ((KFM.refl _ _ _ _).set _ _ _ (by omega)) (hT.full 248 _ _ (by decide +kernel) (by decide +kernel)) ?_ ?_ setI_at rfl ?_ ?_ ?_ ?_ (fun j => ?_) (fun j => ?_) (tc.fr b69.2 (by omega) ⟨fun j => ⟨?_, ?_, ?_, ?_⟩, fun K j hK h1 h2 => ?_, fun j h1 h2 => ?_, fun K hK => ?_, fun j h1 h2 => ?_⟩) ⟨fun z => by omega, fun z => by omega, fun z => by omega, fun _ _ => ⟨?_, ?_⟩, fun z => by omega, fun z => by omega⟩ (HLD.next G hc hi hp (by omega))⟩
         all_goals first | (exfalso; omega) | (simp (disch := omega) only [setI_at, setI_no, cpy_at, cpy_no]; done) | (simp (disch := omega) only [setI_at, setI_no, cpy_at, cpy_no]; first | decide | exact hv (by omega) | exact hv2 | rfl))
    · first
      | (exfalso; omega)
      | (obtain ⟨y1, y2, y3⟩ := tri wz
         subst y2
         rw [e1] at w
         refine ⟨_, _, w, e4 y1 y3, RRM.cu G (b' := (st : Int) + 1) (by omega) R ((((KFX.refl _ _ _ _).set _ _ _ (by omega)).set _ _ _ (by omega)).set _ _ _ (by omega)) ((KFM.refl _ _ _ _).set _ _ _ (by omega)) (hT.full 248 _ _ (by decide +kernel) (by decide +kernel)) ?_ ?_ setI_at rfl ?_ ?_ ?_ ?_ (fun j => ?_) (fun j => ?_) (tc.fr b69.2 (by omega) ⟨fun j => ⟨?_, ?_, ?_, ?_⟩, fun K j hK h1 h2 => ?_, fun j h1 h2 => ?_, fun K hK => ?_, fun j h1 h2 => ?_⟩) ⟨fun z => by omega, fun z => by omega, fun z => by omega, fun _ _ => ⟨?_, ?_⟩, fun z => by omega, fun z => by omega⟩ (HLD.next G hc hi hp (by omega))⟩
         all_goals first | (exfalso; omega) | (simp (disch := omega) only [setI_at, setI_no, cpy_at, cpy_no]; done) | (simp (disch := omega) only [setI_at, setI_no, cpy_at, cpy_no]; first | decide | exact hv (by omega) | exact hv2 | rfl))
