
set_option maxRecDepth 20000
/-! A STEP, BOTH SIDES: begin, weary, the call -/
theorem Fq.cells {Ks : List Nat} {fs : List Int} {h h' : Hp} (a : ∀ K j : Nat, 32 ≤ K → K < 93 → K ∉ Ks → h'.1 (192 + K) j = h.1 (192 + K) j) (b : ∀ k : Nat, (k : Int) ∉ fs → h'.1 223 k = h.1 223 k) : Fq Ks fs h h' := by
  refine ⟨fun K i h1 h2 h3 => ?_, fun k h1 h2 => ?_⟩
  · unfold rd
    rw [xcm (by omega) h2, a K _ h1 h2 h3]
  · obtain ⟨n, rfl⟩ : ∃ n : Nat, k = n := ⟨k.toNat, by omega⟩
    rw [xrd (by decide) (by decide), xrd (by decide) (by decide)]
    exact congrArg Int32.toInt (b n h2)
theorem mk_of {hm : Hp} (hT : TInv hm) : ∃ mk : Nat, hm.1 223 16 = Int32.ofNat mk ∧ mk ≤ 80 := by
  have t : 0 ≤ rd 31 ((16 : Nat) : Int) hm ∧ rd 31 ((16 : Nat) : Int) hm ≤ 80 := rdt_ok hT 31 16
  rw [xrd (by decide) (by decide)] at t
  have t : 0 ≤ (hm.1 223 16).toInt ∧ (hm.1 223 16).toInt ≤ 80 := t
  refine ⟨(hm.1 223 16).toNatClampNeg, (i32_of t.1).symm, ?_⟩
  show (hm.1 223 16).toInt.toNat ≤ 80
  omega
theorem RRM.up {g h hm : Hp} {st c i : Nat} {b b' : Int} {Z : Prop} (G : GS g) (hb : b ≤ b') (R : RRM g h hm st c i b Z) : RRM g h hm st c i b' Z := by
  obtain ⟨⟨X, M, S15, K, hT⟩, RT, R⟩ := R
  have t6 := G.1.1
  exact ⟨⟨X, M, S15, K, hT⟩, fun t ht => ⟨(RT t ht).1.fr (TI.rng hT 69 6 0 40 (by decide +kernel) (by decide) (by decide) (i := t) (by omega)).2 hb ⟨fun _ => ⟨rfl, rfl, rfl, rfl⟩, fun _ _ _ _ _ => rfl, fun _ _ _ => rfl, fun _ _ => rfl, fun _ _ _ => rfl⟩, (RT t ht).2⟩, R⟩
theorem RR.inn {g h hm : Hp} {st c i : Nat} {Z : Prop} (R : RR g h hm st) (hc : c < qc g) (hi : i < qm g c) (CK : CKi g h hm c i) (b1 : (hm.1 241 (8 * c + i)).toInt ≠ -1 ∧ (hm.1 223 16).toInt < 80) (U : Z) : RRM g h hm st c i st Z := by
  obtain ⟨⟨X, M, S15, K, hT⟩, RT, RO⟩ := R
  exact ⟨⟨X, M, S15, K.up (by omega) (Int.le_refl _), hT⟩, RT, fun o ho _ => RO o ho, hc, hi, CK, b1, (CK.2.2.1 i (Nat.le_refl _) hi).2.2, U⟩
theorem ticA {c i k : Nat} (hc : c < 5) (hi : i < 8) (hk : k = 15 ∨ k = 17) : tic (152 + 12 * c + i) k (-2147483648) 2147483647 = true := by
  rcases hk with rfl | rfl
  · exact List.all_eq_true.mp (List.all_eq_true.mp (show ((List.range 5).all fun c => (List.range 8).all fun i => tic (152 + 12 * c + i) 15 (-2147483648) 2147483647) = true by decide +kernel) c (List.mem_range.mpr hc)) i (List.mem_range.mpr hi)
  · exact List.all_eq_true.mp (List.all_eq_true.mp (show ((List.range 5).all fun c => (List.range 8).all fun i => tic (152 + 12 * c + i) 17 (-2147483648) 2147483647) = true by decide +kernel) c (List.mem_range.mpr hc)) i (List.mem_range.mpr hi)
theorem ph_begin {g h hm : Hp} {st c i d d2 : Nat} {r r2 : Option Value × Hp × Nat} (G : GS g) (R : RR g h hm st) (hc : c < qc g) (hi : i < qm g c) (CK : CKi g h hm c i) (U : CU g h hm c i) (hmk : (hm.1 223 16).toInt ≤ 79) (hm2 : (hm.1 241 (8 * c + i)).toInt = -1 → (hm.1 223 16).toInt ≤ 78) (st9 : st < 600) (hxT : TInv h) (e : Ev d 42 (0, [some (.ref 208), some (.ref (148 + 12 * c)), some (.int (Int32.ofNat st)), none], [], h, fl_tot) r) (e2 : Ev d2 158 (0, [some (.ref 223), some (.int (Int32.ofNat c)), none, none, none, none], [], hm, fl_tot) r2) : ∃ h' hm', Ev d 42 (50, [some (.ref 208), some (.ref (148 + 12 * c)), some (.int (Int32.ofNat st)), some (.ref (152 + 12 * c + i))], [], h', fl_tot) r ∧ Ev d2 158 (35, [some (.ref 223), some (.int (Int32.ofNat c)), some (.int (Int32.ofNat (8 * c + i))), none, none, none], [], hm', fl_tot) r2 ∧ RRM g h' hm' st c i st (CU g h' hm' c i) ∧ TInv h' ∧ Fq [43, 44, 45, 47, 49] [16] hm hm' := by
  obtain ⟨⟨X, M, S15, K, hT⟩, RT, RO⟩ := id R
  have c5 := G.c5 hc
  have i8 := G.i8 hc hi
  have T6 := G.T6 hc hi
  obtain ⟨mk, e16, m80⟩ := mk_of hT
  have em : (Int32.ofNat mk).toInt ≤ 79 := by rw [← e16]; exact hmk
  have em' : (Int32.ofNat mk).toInt = mk := i32n (by omega)
  have e08 : h.1 208 4 = Int32.ofNat mk := K.1.trans e16
  have ecn : (Int32.ofNat c).toNatClampNeg = c := o32c (by omega)
  have ex : (Int32.ofNat (8 * c + i)).toNatClampNeg = 8 * c + i := o32c (by omega)
  have emn : (Int32.ofNat mk).toNatClampNeg = mk := o32c (by omega)
  have e43 : hm.1 243 c = Int32.ofNat i := CK.1.2.1
  have e4 : h.1 (148 + 12 * c) 4 = Int32.ofNat i := CK.1.1
  have o1 : Int32.ofNat mk + Int32.ofInt 1 = Int32.ofNat (mk + 1) := o32 (by omega)
  have m0 : (Int32.ofNat mk * Int32.ofInt 4).toNatClampNeg = 4 * mk := mk40 (by omega)
  have m1 : (Int32.ofNat mk * Int32.ofInt 4 + Int32.ofInt 1).toNatClampNeg = 4 * mk + 1 := mk4 (by omega) (by decide)
  have m2 : (Int32.ofNat mk * Int32.ofInt 4 + Int32.ofInt 2).toNatClampNeg = 4 * mk + 2 := mk4 (by omega) (by decide)
  have m3 : (Int32.ofNat mk * Int32.ofInt 4 + Int32.ofInt 3).toNatClampNeg = 4 * mk + 3 := mk4 (by omega) (by decide)
  have o8' := o8 (a := c) (b := i) (by omega) (by omega)
  have hmm : (h.1 (148 + 12 * c) 3).toInt = qm g c := by
    rw [(X.2.2.2.2.1 c hc).1]
    exact (G.2.2 c hc).1
  have htt : (h.1 1 2).toInt = qt g := by rw [X.2.1.1]; exact G.1.2.1
  have hT' := G.T hc hi
  have W := y_do_0 (nk := 0) (X.sq c5) T6 c5 i8 (X.ak G hc hi) (by rw [e4, i32n (by omega)]) (by rw [hmm]; omega) (by rw [htt]; omega) (by rw [e08, i32n (by omega)]; omega) e
  have V := z_does_0 M.1 e2
  simp only [ecn, e43, o8', ex, e16, emn, S15, o1] at V
  simp only [e08, o1, m0, m1, m2, m3] at W
  have O := (CK.2.1 i hi).1.2.1
  by_cases y : (hm.1 241 (8 * c + i)).toInt = -1
  · have mk78 := hm2 y
    rw [e16] at mk78
    rcases W with ⟨q, -⟩ | ⟨-, -, w⟩
    · exact absurd (O.mpr y) q
    · rcases V with ⟨q, -⟩ | ⟨-, v⟩
      · exact absurd y q
      · refine ⟨_, _, w, v, RRM.begin G R hc hi CK U y e16 (by omega) st9, ?_, Fq.cells (fun K j h1 h2 h3 => ?_) (fun k h3 => ?_)⟩
        · exact ((((((hxT.w (ticA c5 i8 (Or.inl rfl)) ⟨Int32.le_toInt _, Int32.toInt_le _⟩).w (ticA c5 i8 (Or.inr rfl)) ⟨Int32.le_toInt _, Int32.toInt_le _⟩).full 209 _ _ (by decide +kernel) (by decide +kernel)).full 209 _ _ (by decide +kernel) (by decide +kernel)).full 209 _ _ (by decide +kernel) (by decide +kernel)).full 209 _ _ (by decide +kernel) (by decide +kernel)).w (r := 208) (k := 4) (lo := 0) (hi := 80) (by decide +kernel) (by rw [i32n (by omega)]; omega)
        · simp only [List.mem_cons, List.not_mem_nil, or_false, not_or] at h3
          simp (disch := omega) only [setI_no]
        · simp only [List.mem_cons, List.not_mem_nil, or_false] at h3
          simp (disch := omega) only [setI_no]
  · rcases W with ⟨-, w⟩ | ⟨q, -⟩
    · rcases V with ⟨-, v⟩ | ⟨q, -⟩
      · exact ⟨_, _, w, v, RR.inn R hc hi CK ⟨y, by rw [e16]; omega⟩ U, hxT, Fq.refl _⟩
      · exact absurd q y
    · exact absurd (O.mp q) y
theorem ph_weary {g h hm : Hp} {st c i d d2 : Nat} {r r2 : Option Value × Hp × Nat} (G : GS g) (R : RRM g h hm st c i st (CUw g h hm c i 0)) (st9 : st < 600) (e : Ev d 42 (50, [some (.ref 208), some (.ref (148 + 12 * c)), some (.int (Int32.ofNat st)), some (.ref (152 + 12 * c + i))], [], h, fl_tot) r) (e2 : Ev d2 158 (35, [some (.ref 223), some (.int (Int32.ofNat c)), some (.int (Int32.ofNat (8 * c + i))), none, none, none], [], hm, fl_tot) r2) : ∃ h' hm', r = (none, h', fl_tot) ∧ r2 = (none, hm', fl_tot) ∧ RR g h' hm' (st + 1) := by
  obtain ⟨⟨X, M, S15, K, hT⟩, RT, RO, hc, hi, CK, b1, b2, U⟩ := id R
  obtain ⟨⟨u1, u2⟩, -⟩ := id U
  have c5 := G.c5 hc
  have i8 := G.i8 hc hi
  have T6 := G.T6 hc hi
  obtain ⟨mk, e16, m80⟩ := mk_of hT
  have em : (Int32.ofNat mk).toInt < 80 := by rw [← e16]; exact b1.2
  have em' : (Int32.ofNat mk).toInt = mk := i32n (by omega)
  have e08 : h.1 208 4 = Int32.ofNat mk := K.1.trans e16
  have ecn : (Int32.ofNat c).toNatClampNeg = c := o32c (by omega)
  have ex : (Int32.ofNat (8 * c + i)).toNatClampNeg = 8 * c + i := o32c (by omega)
  have emn : (Int32.ofNat mk).toNatClampNeg = mk := o32c (by omega)
  have e43 : hm.1 243 c = Int32.ofNat i := CK.1.2.1
  have e4 : h.1 (148 + 12 * c) 4 = Int32.ofNat i := CK.1.1
  have o1 : Int32.ofNat mk + Int32.ofInt 1 = Int32.ofNat (mk + 1) := o32 (by omega)
  have o2 : Int32.ofNat i + Int32.ofInt 1 = Int32.ofNat (i + 1) := o32 (by omega)
  have o3 : Int32.ofNat st + Int32.ofInt 1 = Int32.ofNat (st + 1) := o32 (by omega)
  have m0 : (Int32.ofNat mk * Int32.ofInt 4).toNatClampNeg = 4 * mk := mk40 (by omega)
  have m1 : (Int32.ofNat mk * Int32.ofInt 4 + Int32.ofInt 1).toNatClampNeg = 4 * mk + 1 := mk4 (by omega) (by decide)
  have m2 : (Int32.ofNat mk * Int32.ofInt 4 + Int32.ofInt 2).toNatClampNeg = 4 * mk + 2 := mk4 (by omega) (by decide)
  have m3 : (Int32.ofNat mk * Int32.ofInt 4 + Int32.ofInt 3).toNatClampNeg = 4 * mk + 3 := mk4 (by omega) (by decide)
  have W := y_do_w (nk := 0) (X.sq c5) T6 c5 i8 (X.ak G hc hi) (by rw [e08, i32n (by omega)]; omega) (by rw [u1]; decide) e
  have V := z_does_w M.1 (by rw [ecn, u2]; decide) e2
  simp only [ecn, e43, ex, e16, emn, S15, o1, o2, o3] at V
  simp only [e08, e4, o1, o2, m0, m1, m2, m3] at W
  rcases W with ⟨-, -, -, w⟩ | ⟨-, q, -⟩
  · exact ⟨_, _, w, V.2, RRM.over (hb_ := hm) (how := Int32.ofInt 4) (ans := Int32.ofInt 0) G (R.up G (by omega)) e16 (by omega) st9 (by decide) (fun _ => rfl) (fun _ => by decide) (fun _ _ _ => rfl) rfl hT⟩
  · exact absurd q (by decide)
theorem x_c45 {d c i : Nat} {s : Int32} {h : Hp} {r : Option Value × Hp × Nat} (e : Ev d 42 (70, [some (.ref 208), some (.ref (148 + 12 * c)), some (.int s), some (.ref (152 + 12 * c + i))], [.int s, .ref (152 + 12 * c + i), .ref (148 + 12 * c), .ref 208], h, fl_tot) r) : ∃ d' v h2 n2, Ev d' 45 (0, [some (.ref 208), some (.ref (148 + 12 * c)), some (.ref (152 + 12 * c + i)), some (.int s), none], [], h, fl_tot) (v, h2, n2) ∧ (v = none → n2 = fl_tot → Ev d 42 (73, [some (.ref 208), some (.ref (148 + 12 * c)), some (.int s), some (.ref (152 + 12 * c + i))], [], h2, fl_tot) r) := by
  obtain ⟨d', v, h2, n2, -, ec, e⟩ := b_call (m2 := 45) (k := 3) (nL := 5) (as := [.ref 208, .ref (148 + 12 * c), .ref (152 + 12 * c + i), .int s]) (rest := []) (L := [some (.ref 208), some (.ref (148 + 12 * c)), some (.ref (152 + 12 * c + i)), some (.int s), none]) e (show fl_code 42 70 = some (18, [((45 : Nat) : Int), ((3 : Nat) : Int)], 73) by decide +kernel) rfl (by decide +kernel) rfl rfl rfl
  refine ⟨d', v, h2, n2, ec, fun z1 z2 => ?_⟩
  rw [z1, z2] at e
  exact e
theorem ph_go {g h hm : Hp} {st c i d d2 : Nat} {r r2 : Option Value × Hp × Nat} (G : GS g) {q : Nat} {Z : Hp → Hp → Prop} (go : ∀ (d d2 : Nat) (r r2 : Option Value × Hp × Nat), Ev d 45 (0, [some (.ref 208), some (.ref (148 + 12 * c)), some (.ref (152 + 12 * c + i)), some (.int (Int32.ofNat st)), none], [], h, fl_tot) r → Ev d2 158 (113, lsM g c i q, [], hm, fl_tot) r2 → GO g st c i q (lsM g c i q) Z d2 r r2) (e : Ev d 42 (70, [some (.ref 208), some (.ref (148 + 12 * c)), some (.int (Int32.ofNat st)), some (.ref (152 + 12 * c + i))], [.int (Int32.ofNat st), .ref (152 + 12 * c + i), .ref (148 + 12 * c), .ref 208], h, fl_tot) r) (e2 : Ev d2 158 (113, lsM g c i q, [], hm, fl_tot) r2) : ∃ h' hm', Ev d 42 (73, [some (.ref 208), some (.ref (148 + 12 * c)), some (.int (Int32.ofNat st)), some (.ref (152 + 12 * c + i))], [], h', fl_tot) r ∧ Ev d2 158 (256, lsM g c i q, [], hm', fl_tot) r2 ∧ RRM g h' hm' st c i (st + 1) (Z h' hm') := by
  obtain ⟨d', v, h2, n2, ec, k⟩ := x_c45 e
  obtain ⟨h', hm', w, z, R⟩ := go _ _ _ _ ec e2
  obtain ⟨y1, y2, y3⟩ := tri w
  subst y2
  exact ⟨_, _, k y1 y3, z, R⟩
/-- the step that is next, as the reference sees it -/
theorem z_entry {g hm : Hp} {c i d2 : Nat} {r2 : Option Value × Hp × Nat} (G : GS g) (M : SM g hm) (hT : TInv hm) (hc : c < qc g) (hi : i < qm g c) {q : Nat} (q20 : q ≤ 20) (w0 : hm.1 245 c = Int32.ofInt 0) (e44 : hm.1 244 c = Int32.ofInt (q : Int)) (e2 : Ev d2 158 (35, [some (.ref 223), some (.int (Int32.ofNat c)), some (.int (Int32.ofNat (8 * c + i))), none, none, none], [], hm, fl_tot) r2) : Ev d2 158 (113, lsM g c i q, [], hm, fl_tot) r2 := by
  have c5 := G.c5 hc
  have i8 := G.i8 hc hi
  have ecn : (Int32.ofNat c).toNatClampNeg = c := o32c (by omega)
  have ex : (Int32.ofNat (8 * c + i)).toNatClampNeg = 8 * c + i := o32c (by omega)
  have T6 := G.T6 hc hi
  have eTn : (Int32.ofNat (qT g c i)).toNatClampNeg = qT g c i := o32c (by omega)
  obtain ⟨s1, s2, s3, s4, s5, s6, s7⟩ := SM.st G M hc hi
  have V := z_does_n (sv := Int32.ofInt (qS g c i q)) M.1 (by rw [ecn, w0]; decide) (by
    intro d r e
    rw [ecn, e44] at e
    exact z_step G M hT hc hi (q := q) (by omega) rfl e) e2
  rw [ex, s2, eTn, s4] at V
  unfold lsM mOf
  rcases V with ⟨-, y, v⟩ | ⟨-, y, v⟩
  · rw [if_neg y]
    exact v
  · rw [if_pos y]
    exact v
