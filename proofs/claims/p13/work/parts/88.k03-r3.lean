
set_option maxRecDepth 20000
/-! STEPS ON BOTH SIDES: MARK, MAKE -/
theorem GS.key {g : Hp} {c i : Nat} (G : GS g) (hc : c < qc g) (hi : i < qm g c) (hk : qK g c i = 0 ∨ qK g c i = 5 ∨ (qK g c i = 4 ∧ qO g c i ≠ 3)) : ∃ a : Nat, a < 32 ∧ g.1 230 (8 * c + i) = Int32.ofNat a ∧ qA g c i = a := by
  have b : 0 ≤ (g.1 230 (8 * c + i)).toInt ∧ (g.1 230 (8 * c + i)).toInt ≤ 31 := G.ky hc hi hk
  refine ⟨(g.1 230 (8 * c + i)).toNatClampNeg, ?_, (i32_of b.1).symm, ?_⟩
  · show (g.1 230 (8 * c + i)).toInt.toNat < 32
    omega
  · show (g.1 230 (8 * c + i)).toInt = ((g.1 230 (8 * c + i)).toInt.toNat : Int)
    omega
/-- a step that neither takes nor gives -/
theorem HLD.next {g hm : Hp} {c i p : Nat} (G : GS g) (hc : c < qc g) (hi : i < qm g c) (hp : p < stLen (qJ g c i)) (h2 : 2 ≤ stC (qJ g c i) p) (O : HLD g hm c i p) : HLD g hm c i (p + 1) := fun z m h4 hh => by
  have I := (G.inn hc hi hp).1
  have tb := (G.tb hc hi hp).1
  have : qS g c i p < 100 := by
    rw [I]
    unfold stCode
    repeat' split
    all_goals omega
  rw [qH_succ, if_neg (by omega), if_neg (by omega)] at hh
  exact O z m h4 hh
theorem RRM.cu {g h hm h' hm' : Hp} {st c i pc p pc' p' : Nat} {q b b' : Int} (G : GS g) (hb : b ≤ b') (R : RRM g h hm st c i b (CUn g h hm c i pc q p)) (x : KFX c i (qT g c i) h h') (m : KFM c i (qT g c i) hm hm') (tm : TInv hm') (a10 : h'.1 (152 + 12 * c + i) 10 = h.1 (152 + 12 * c + i) 10) (a12 : h'.1 (152 + 12 * c + i) 12 = h.1 (152 + 12 * c + i) 12) (a9 : h'.1 (152 + 12 * c + i) 9 = Int32.ofNat pc') (r7 : h'.2 (152 + 12 * c + i) 7 = h.2 (152 + 12 * c + i) 7) (e40 : hm'.1 240 (8 * c + i) = hm.1 240 (8 * c + i)) (e45 : hm'.1 245 c = hm.1 245 c) (e44 : hm'.1 244 c = hm.1 244 c) (e51 : hm'.1 251 c = hm.1 251 c) (o1 : ∀ j : Nat, h'.1 (8 + 24 * qT g c i) j = h.1 (8 + 24 * qT g c i) j) (o2 : ∀ j : Nat, hm'.1 254 j = hm.1 254 j) (T' : TRc g h' hm' (qT g c i) b') (nt : NT g h' hm' c i p') (hl : HLD g hm c i p → HLD g hm c i p') : RRM g h' hm' st c i b' (CUn g h' hm' c i pc' q p') := by
  obtain ⟨-, RT, RO, hc, hi, CK, b1, b2, ⟨u1, u2⟩, u3, u4, u5, u6, u7, u8⟩ := id R
  refine RRM.go G hb R x m tm ⟨_, r7.trans u5⟩ (fun o j ho hne hj => by rw [o2]; exact hj) ((CK.2.1 i hi).2.of a12 e40) T' ((RT _ (G.T hc hi)).2.fr o1 (fun j _ _ => o2 j)) ⟨⟨a10.trans u1, e45.trans u2⟩, a9, e44.trans u4, r7.trans u5, e51.trans u6, nt, fun z m' h4 hh => ?_⟩
  rw [o2]
  exact hl u8 z m' h4 hh
theorem subI1 {x : Int32} (h : 0 < x.toInt) : (x - Int32.ofInt 1).toInt = x.toInt - 1 := by
  have e : (Int32.ofInt 1).toInt = 1 := by decide
  rw [Int32.toInt_sub, e]
  have := Int32.toInt_lt x
  rw [Int.bmod_eq_of_le (by omega) (by omega)]

theorem go_mark {g h hm : Hp} {st c i p d d2 : Nat} {s : Int32} {r r2 : Option Value × Hp × Nat} (G : GS g) (R : RRM g h hm st c i st (CUn g h hm c i p p p)) (hp : p < stLen (qJ g c i)) (hC : stC (qJ g c i) p = 5) (e : Ev d 45 (0, [some (.ref 208), some (.ref (148 + 12 * c)), some (.ref (152 + 12 * c + i)), some (.int s), none], [], h, fl_tot) r) (e2 : Ev d2 158 (113, lsM g c i p, [], hm, fl_tot) r2) : GO g st c i p (lsM g c i p) (fun h' hm' => CUn g h' hm' c i (p + 1) p (p + 1)) d2 r r2 := by
  obtain ⟨⟨X, M, S15, K, hT⟩, RT, RO, hc, hi, CK, b1, b2, ⟨u1, u2⟩, u3, u4, u5, u6, u7, u8⟩ := id R
  have c5 := G.c5 hc
  have i8 := G.i8 hc hi
  have T6 := G.T6 hc hi
  have hJ := G.len hc hi
  obtain ⟨p10, hp0, hpl, hcd⟩ := cx G X hc hi (by omega) hp u3 u5
  obtain ⟨eF, eK⟩ := cF G X hc hi
  obtain ⟨s1, s2, s3, s4, s5, s6, s7⟩ := SM.st G M hc hi
  obtain ⟨tc, ow1, ow2⟩ := RT _ (G.T hc hi)
  have I := G.inn hc hi hp
  have tb := G.tb hc hi hp
  have e1 : h.1 (152 + 12 * c + i) 9 + Int32.ofInt 1 = Int32.ofNat (p + 1) := by rw [u3, o32 (by omega)]
  have ex : (Int32.ofNat (8 * c + i)).toNatClampNeg = 8 * c + i := o32c (by omega)
  have ecn : (Int32.ofNat c).toNatClampNeg = c := o32c (by omega)
  have eTn : (Int32.ofNat (qT g c i)).toNatClampNeg = qT g c i := o32c (by omega)
  have k5 : qK g c i = 5 := (tb.2.2.2.2.1 hC).2
  have kg : (g.1 224 (qT g c i)).toInt = 5 := k5
  have p2 : p = 2 := (tb.2.2.2.2.1 hC).1
  obtain ⟨a, a32, ea, -⟩ := G.key hc hi (by omega)
  have kS : (Int32.ofInt (qS g c i p)).toInt = 4 := by rw [I.1, hC]; rfl
  obtain ⟨-, -, -, -, -, -, -, -, w⟩ := y_go_mark (X.sq (G.c5 hc)) (G.T6 hc hi) (G.c5 hc) (G.i8 hc hi) (X.ak G hc hi) hp0 hpl (by rw [hcd]; exact hC) e
  obtain ⟨-, -, -, -, -, -, Z⟩ := z_does_mark (h := hm) (c := Int32.ofNat c) (x := Int32.ofNat (8 * c + i)) M.1 kS e2
  rw [ea, e1] at w
  rw [ex, s2, s6, ea, i32k (by omega) (by omega)] at Z
  refine ⟨_, _, w, Z, RRM.cu G (b' := (st : Int) + 1) (by omega) R (((KFX.refl _ _ _ _).set _ _ _ (by omega)).set _ _ _ (by omega)) ((KFM.refl _ _ _ _).set _ _ _ (by omega)) (hT.a 264 _ 0 1 (by decide +kernel) (by decide +kernel) (by decide)) ?_ ?_ setI_at rfl ?_ ?_ ?_ ?_ (fun j => ?_) (fun j => ?_) ⟨fun z j hj => ?_, fun z => by omega, fun z => by omega, fun z => ⟨fun j hj => ⟨?_, ?_⟩, ?_, ?_⟩⟩ ((u7.next G hc hi hp (by omega) (by omega) (by omega) (by omega)).fr2 ?_ ?_ ?_ (fun j => ?_) (fun K h1 h2 => ?_) (fun K j hK => ?_)) (HLD.next G hc hi hp (by omega))⟩
  · simp (disch := omega) only [setI_at, setI_no]
  · simp (disch := omega) only [setI_at, setI_no]
  · rw [setI_no (by omega)]
  · rw [setI_no (by omega)]
  · rw [setI_no (by omega)]
  · rw [setI_no (by omega)]
  · simp (disch := omega) only [setI_at, setI_no]
  · rw [setI_no (by omega)]
  · simp (disch := omega) only [setI_at, setI_no]
    exact tc.1 z j hj
  · simp (disch := omega) only [setI_at, setI_no]; rw [hb_or hj a32]
    have t4 := (tc.2.2.2 z).1 j hj
    by_cases y : j = a
    · rw [y, setI_at]
      simp
    · rw [setI_no (by omega)]
      simp only [y, decide_false, Bool.or_false]
      exact t4.1
  · simp (disch := omega) only [setI_at, setI_no]
    exact ((tc.2.2.2 z).1 j hj).2
  · simp (disch := omega) only [setI_at, setI_no]
    exact (tc.2.2.2 z).2.1
  · simp (disch := omega) only [setI_at, setI_no]
    exact (tc.2.2.2 z).2.2
  · simp (disch := omega) only [setI_at, setI_no]
  · simp (disch := omega) only [setI_at, setI_no]
  · simp (disch := omega) only [setI_at, setI_no]
  · simp (disch := omega) only [setI_at, setI_no]
  · rw [setI_no (by omega)]
  · rw [setI_no (by omega)]

theorem go_make {g h hm : Hp} {st c i p d d2 : Nat} {s : Int32} {r r2 : Option Value × Hp × Nat} (G : GS g) (R : RRM g h hm st c i st (CUn g h hm c i p p p)) (hp : p < stLen (qJ g c i)) (hC : stC (qJ g c i) p = 6) (e : Ev d 45 (0, [some (.ref 208), some (.ref (148 + 12 * c)), some (.ref (152 + 12 * c + i)), some (.int s), none], [], h, fl_tot) r) (e2 : Ev d2 158 (113, lsM g c i p, [], hm, fl_tot) r2) : GO g st c i p (lsM g c i p) (fun h' hm' => CUn g h' hm' c i (p + 1) p (p + 1)) d2 r r2 := by
  obtain ⟨⟨X, M, S15, K, hT⟩, RT, RO, hc, hi, CK, b1, b2, ⟨u1, u2⟩, u3, u4, u5, u6, u7, u8⟩ := id R
  have c5 := G.c5 hc
  have i8 := G.i8 hc hi
  have T6 := G.T6 hc hi
  have hJ := G.len hc hi
  obtain ⟨p10, hp0, hpl, hcd⟩ := cx G X hc hi (by omega) hp u3 u5
  obtain ⟨eF, eK⟩ := cF G X hc hi
  obtain ⟨s1, s2, s3, s4, s5, s6, s7⟩ := SM.st G M hc hi
  obtain ⟨tc, ow1, ow2⟩ := RT _ (G.T hc hi)
  have I := G.inn hc hi hp
  have tb := G.tb hc hi hp
  have e1 : h.1 (152 + 12 * c + i) 9 + Int32.ofInt 1 = Int32.ofNat (p + 1) := by rw [u3, o32 (by omega)]
  have ex : (Int32.ofNat (8 * c + i)).toNatClampNeg = 8 * c + i := o32c (by omega)
  have ecn : (Int32.ofNat c).toNatClampNeg = c := o32c (by omega)
  have eTn : (Int32.ofNat (qT g c i)).toNatClampNeg = qT g c i := o32c (by omega)
  have k5 : qK g c i = 5 := (tb.2.2.2.2.2.1 hC).2
  have kg : (g.1 224 (qT g c i)).toInt = 5 := k5
  have p4 : p = 4 := (tb.2.2.2.2.2.1 hC).1
  have rd2 : rdP (qK g c i) (qO g c i) = 2 := by
    rw [k5]
    rfl
  have w7 : 7 ≤ wrP (qF g c i) := by
    unfold wrP
    split <;> omega
  obtain ⟨a, a32, ea, -⟩ := G.key hc hi (by omega)
  have kS : (Int32.ofInt (qS g c i p)).toInt = 5 := by rw [I.1, hC]; rfl
  have W := y_go_make (X.sq (G.c5 hc)) (G.T6 hc hi) (G.c5 hc) (G.i8 hc hi) (X.ak G hc hi) hp0 hpl (by rw [hcd]; exact hC) e
  have Z := z_does_make (h := hm) (c := Int32.ofNat c) (x := Int32.ofNat (8 * c + i)) M.1 kS e2
  rw [ea, e1, an31 a32] at W
  rw [ex, s2, s6, ea, i32k (by omega) (by omega), ecn, eTn] at Z
  have t4 := tc.2.2.2 kg
  have tl := (t4.1 a a32).2
  have n5 := (u7.2.2.2.2.2 k5 (by omega)).1
  rw [if_neg (by omega)] at n5
  rcases W with ⟨-, -, -, -, -, -, -, -, -, q, w⟩ | ⟨-, -, -, -, -, -, -, -, -, q, w⟩
  · rcases Z with ⟨-, -, -, -, -, -, q2, -⟩ | ⟨-, -, -, -, -, -, q2, Z⟩
    · rw [tl] at q; omega
    · have b9 := TI.rng hT 73 192 0 9 (by decide +kernel) (by decide) (by decide) (i := 32 * qT g c i + a) (by omega)
      refine ⟨_, _, w, Z, RRM.cu G (b' := (st : Int) + 1) (by omega) R (((((KFX.refl _ _ _ _).set _ _ _ (by omega)).set _ _ _ (by omega)).set _ _ _ (by omega)).set _ _ _ (by omega) |>.set _ _ _ (by omega)) (((((KFM.refl _ _ _ _).set _ _ _ (by omega)).set _ _ _ (by omega)).set _ _ _ (by omega)).set _ _ _ (by omega)) ((((hT.full 271 _ _ (by decide +kernel) (by decide +kernel)).a 250 _ 0 1 (by decide +kernel) (by decide +kernel) (by decide)).a 265 _ 0 9 (by decide +kernel) (by decide +kernel) (by
        have b : 0 ≤ (hm.1 265 (32 * qT g c i + a)).toInt ∧ (hm.1 265 (32 * qT g c i + a)).toInt ≤ 9 := b9
        rw [subI1 (by omega)]
        omega)).full 272 _ _ (by decide +kernel) (by decide +kernel)) ?_ ?_ setI_at rfl ?_ ?_ ?_ ?_ (fun j => ?_) (fun j => ?_) ⟨fun z j hj => ?_, fun z => by omega, fun z => by omega, fun z => ⟨fun j hj => ⟨?_, ?_⟩, ?_, ?_⟩⟩ ⟨fun z => by omega, fun z => by omega, fun z => by omega, fun z => by omega, fun z => by omega, fun _ _ => ⟨?_, fun y => by omega⟩⟩ (HLD.next G hc hi hp (by omega))⟩
      · simp (disch := omega) only [setI_at, setI_no]
      · simp (disch := omega) only [setI_at, setI_no]
      · simp (disch := omega) only [setI_at, setI_no]
      · simp (disch := omega) only [setI_at, setI_no]
      · simp (disch := omega) only [setI_at, setI_no]
      · simp (disch := omega) only [setI_at, setI_no]
      · simp (disch := omega) only [setI_at, setI_no]
      · simp (disch := omega) only [setI_at, setI_no]
      · simp (disch := omega) only [setI_at, setI_no]
        exact tc.1 z j hj
      · simp (disch := omega) only [setI_at, setI_no]
        exact (t4.1 j hj).1
      · simp (disch := omega) only [setI_at, setI_no]
        by_cases y : j = a
        · rw [y, setI_at, setI_at, tl]
        · simp (disch := omega) only [setI_at, setI_no]
          exact (t4.1 j hj).2
      · simp (disch := omega) only [setI_at, setI_no]; rw [t4.2.1]
      · simp (disch := omega) only [setI_at, setI_no]; rw [t4.2.2]
      · simp (disch := omega) only [setI_at, setI_no]; rw [if_pos ⟨by omega, by decide⟩]
        rfl
  · rcases Z with ⟨-, -, -, -, -, -, q2, Z⟩ | ⟨-, -, -, -, -, -, q2, -⟩
    · refine ⟨_, _, w, Z, RRM.cu G (b' := (st : Int) + 1) (by omega) R (((KFX.refl _ _ _ _).set _ _ _ (by omega)).set _ _ _ (by omega)) (((KFM.refl _ _ _ _).set _ _ _ (by omega)).set _ _ _ (by omega)) ((hT.full 271 _ _ (by decide +kernel) (by decide +kernel)).a 250 _ 0 1 (by decide +kernel) (by decide +kernel) (by decide)) ?_ ?_ setI_at rfl ?_ ?_ ?_ ?_ (fun j => ?_) (fun j => ?_) ⟨fun z j hj => ?_, fun z => by omega, fun z => by omega, fun z => ⟨fun j hj => ⟨?_, ?_⟩, ?_, ?_⟩⟩ ⟨fun z => by omega, fun z => by omega, fun z => by omega, fun z => by omega, fun z => by omega, fun _ _ => ⟨?_, fun y => by omega⟩⟩ (HLD.next G hc hi hp (by omega))⟩
      · simp (disch := omega) only [setI_at, setI_no]
      · simp (disch := omega) only [setI_at, setI_no]
      · simp (disch := omega) only [setI_at, setI_no]
      · simp (disch := omega) only [setI_at, setI_no]
      · simp (disch := omega) only [setI_at, setI_no]
      · simp (disch := omega) only [setI_at, setI_no]
      · simp (disch := omega) only [setI_at, setI_no]
      · simp (disch := omega) only [setI_at, setI_no]
      · simp (disch := omega) only [setI_at, setI_no]
        exact tc.1 z j hj
      · simp (disch := omega) only [setI_at, setI_no]
        exact (t4.1 j hj).1
      · simp (disch := omega) only [setI_at, setI_no]
        exact (t4.1 j hj).2
      · simp (disch := omega) only [setI_at, setI_no]; rw [t4.2.1]
      · simp (disch := omega) only [setI_at, setI_no]
        exact t4.2.2
      · simp (disch := omega) only [setI_at, setI_no]; rw [if_neg (fun y => y.2 (by decide))]
        exact n5
    · rw [tl] at q; omega
