
set_option maxRecDepth 20000
/-! THE PHASES OF A STEP -/
theorem MK.up {h hm : Hp} {a b a' b' : Int} (ha : a ≤ a') (hb : b ≤ b') (M : MK h hm a b) : MK h hm a' b' := ⟨M.1, fun j hj => by
  obtain ⟨q0, q1, q2, q3⟩ := M.2 j hj
  exact ⟨q0, Int.lt_of_lt_of_le q1 ha, fun z => Int.lt_of_lt_of_le (q2 z) hb, q3⟩⟩
/-- the reference's clock and the place go on -/
theorem RRM.tick {g h hm HB : Hp} {st c i : Nat} {b : Int} {Z : Prop} (G : GS g) (hb : b ≤ st + 1) (R : RRM g h hm st c i b Z) (b0 : ∀ K j : Nat, ¬ (K = 244 ∧ j = c) → ¬ (K = 223 ∧ j = 15) → HB.1 K j = hm.1 K j) (b2 : HB.2 = hm.2) (b15 : HB.1 223 15 = Int32.ofNat (st + 1)) (bT : TInv HB) (U : CU g h HB c i) : RR g h HB (st + 1) := by
  obtain ⟨⟨X, M, S15, K, hT⟩, RT, RO, hc, hi, CK, b1, b2', -⟩ := id R
  have t6 := G.1.1
  have MXX : KMX hm HB := ⟨by rw [b0 _ _ (by omega) (by omega)]; exact Int.le_refl _, fun j _ => ⟨b0 _ _ (by omega) (by omega), b0 _ _ (by omega) (by omega), b0 _ _ (by omega) (by omega)⟩⟩
  refine ⟨⟨X, M.low b2 (fun K j hK => b0 K j (by omega) (by omega)), b15, (K.fr rfl (fun _ => rfl) (b0 _ _ (by omega) (by omega)) (fun K j h1 h2 => b0 _ _ (by omega) (by omega))).up (by omega) (by omega), bT⟩, fun t ht => ⟨?_, ?_⟩, fun o ho => ?_⟩
  · exact (RT t ht).1.fr (TI.rng hT 69 6 0 40 (by decide +kernel) (by decide) (by decide) (i := t) (by omega)).2 (by omega) ⟨fun j => ⟨rfl, rfl, rfl, rfl⟩, fun K j hK _ _ => b0 _ _ (by omega) (by omega), fun j _ _ => b0 _ _ (by omega) (by omega), fun K hK => b0 _ _ (by omega) (by omega), fun j _ _ => b0 _ _ (by omega) (by omega)⟩
  · exact (RT t ht).2.fr (fun _ => rfl) (fun j _ _ => b0 _ _ (by omega) (by omega))
  · by_cases y : o = c
    · subst y
      exact ⟨i, CK.fk ⟨fun _ => rfl, fun _ _ _ _ => rfl, fun _ _ _ => rfl, b0 _ _ (by omega) (by omega), fun K j h1 h2 _ _ => b0 _ _ (by omega) (by omega), fun _ => b0 _ _ (by omega) (by omega)⟩ MXX (G.m8 ho) (fun _ => (CK.2.1 i hi).2.of rfl (b0 _ _ (by omega) (by omega))), fun _ => U⟩
    · exact (RO o ho y).fr ⟨fun r j _ _ => ⟨rfl, rfl⟩, fun K h1 h2 => b0 _ _ (by omega) (by omega), fun K j hK h1 h2 => b0 _ _ (by omega) (by omega), fun K j h1 h2 h3 h4 => b0 _ _ (by omega) (by omega), fun j hj => by rw [b0 _ _ (by omega) (by omega)]; exact hj⟩ MXX (G.m8 ho)
theorem oadd {q : Int} (h1 : -2 ≤ q) (h2 : q ≤ 1000) : Int32.ofInt q + Int32.ofInt 1 = Int32.ofInt (q + 1) := by
  apply Int32.toInt_inj.mp
  rw [add1 (y := 2000) (by rw [kc (by omega) (by omega)]; omega) (by omega), kc (by omega) (by omega), kc (by omega) (by omega)]
theorem SM.gx {g hm : Hp} {c : Nat} {v : Int32} (M : SM g hm) : SM g (fl_setI hm 244 c v) := SM.low (h := hm) (h' := fl_setI hm 244 c v) rfl (fun K j hK => setI_no (by omega)) M
/-- the place goes on; is it the end -/
theorem z_e {g hm : Hp} {c i d : Nat} {q : Int} {sI mI bI : Int32} {r : Option Value × Hp × Nat} (G : GS g) (M : SM g hm) (hT : TInv hm) (hc : c < qc g) (hi : i < qm g c) (eq : hm.1 244 c = Int32.ofInt q) (hq : -1 ≤ q ∧ q ≤ 19) (e : Ev d 158 (256, [some (.ref 223), some (.int (Int32.ofNat c)), some (.int (Int32.ofNat (8 * c + i))), some (.int sI), some (.int mI), some (.int bI)], [], hm, fl_tot) r) : TInv (fl_setI hm 244 c (Int32.ofInt (q + 1))) ∧ (((hm.1 251 c).toInt = 0 ∧ (hm.1 245 c).toInt ≠ 0 ∧ Ev d 158 (312, [some (.ref 223), some (.int (Int32.ofNat c)), some (.int (Int32.ofNat (8 * c + i))), some (.int sI), some (.int mI), some (.int bI)], [], fl_setI hm 244 c (Int32.ofInt (q + 1)), fl_tot) r) ∨ ((hm.1 251 c).toInt = 0 ∧ (hm.1 245 c).toInt = 0 ∧ stF (qK g c i) (qO g c i) (qA g c i) (qF g c i) c (q + 1) ≠ 0 ∧ Ev d 158 (312, [some (.ref 223), some (.int (Int32.ofNat c)), some (.int (Int32.ofNat (8 * c + i))), some (.int sI), some (.int mI), some (.int bI)], [], fl_setI hm 244 c (Int32.ofInt (q + 1)), fl_tot) r) ∨ ((hm.1 251 c).toInt = 0 ∧ (hm.1 245 c).toInt = 0 ∧ stF (qK g c i) (qO g c i) (qA g c i) (qF g c i) c (q + 1) = 0 ∧ Ev d 158 (306, [some (.ref 223), some (.int (Int32.ofNat c)), some (.int (Int32.ofNat (8 * c + i))), some (.int sI), some (.int mI), some (.int bI)], [], fl_setI hm 244 c (Int32.ofInt (q + 1)), fl_tot) r) ∨ ((hm.1 251 c).toInt ≠ 0 ∧ sI.toInt ≥ 200 ∧ Ev d 158 (306, [some (.ref 223), some (.int (Int32.ofNat c)), some (.int (Int32.ofNat (8 * c + i))), some (.int sI), some (.int mI), some (.int bI)], [], fl_setI hm 244 c (Int32.ofInt (q + 1)), fl_tot) r) ∨ ((hm.1 251 c).toInt ≠ 0 ∧ sI.toInt < 200 ∧ (hm.1 245 c).toInt ≠ 0) ∨ ((hm.1 251 c).toInt ≠ 0 ∧ sI.toInt < 200 ∧ (hm.1 245 c).toInt = 0 ∧ stF (qK g c i) (qO g c i) (qA g c i) (qF g c i) c (q + 1) ≠ 0 ∧ Ev d 158 (312, [some (.ref 223), some (.int (Int32.ofNat c)), some (.int (Int32.ofNat (8 * c + i))), some (.int sI), some (.int mI), some (.int bI)], [], fl_setI hm 244 c (Int32.ofInt (q + 1)), fl_tot) r) ∨ ((hm.1 251 c).toInt ≠ 0 ∧ sI.toInt < 200 ∧ (hm.1 245 c).toInt = 0 ∧ stF (qK g c i) (qO g c i) (qA g c i) (qF g c i) c (q + 1) = 0)) := by
  have c5 := G.c5 hc
  have i8 := G.i8 hc hi
  have ecn : (Int32.ofNat c).toNatClampNeg = c := o32c (by omega)
  have eo : hm.1 244 c + Int32.ofInt 1 = Int32.ofInt (q + 1) := by rw [eq, oadd (by omega) (by omega)]
  have TG : TInv (fl_setI hm 244 c (Int32.ofInt (q + 1))) := hT.a 244 _ (-1) 20 (by decide +kernel) (by decide +kernel) (by rw [kc (by omega) (by omega)]; omega)
  have rgS := stF_range (k := qK g c i) (op := qO g c i) (a := qA g c i) (f := qF g c i) (c := c) (i := q + 1) (fun z => G.ky hc hi (Or.inl z)) (fun z => by
    obtain ⟨-, -, o3, o4⟩ := G.op hc hi
    rw [z] at o4
    exact ⟨o3, o4⟩) (G.cI hc) (by omega)
  have Z := z_does_e (h := hm) (c := Int32.ofNat c) (x := Int32.ofNat (8 * c + i)) (sv := Int32.ofInt (stF (qK g c i) (qO g c i) (qA g c i) (qF g c i) c (q + 1))) M.1 (by
    intro d r e
    rw [ecn, eo] at e ⊢
    exact z_step G M.gx TG hc hi (q := q + 1) (by omega) rfl e) e
  rw [ecn, eo, kc (by omega) (by omega)] at Z
  refine ⟨TG, ?_⟩
  rcases Z with ⟨z1, z2, z⟩ | ⟨z1, z2, z3, z⟩ | ⟨z1, z2, z3, z⟩ | ⟨z1, z2, z⟩ | ⟨z1, z2, z3, z⟩ | ⟨z1, z2, z3, z4, z⟩ | ⟨z1, z2, z3, z4, z⟩
  · exact Or.inl ⟨z1, z2, z⟩
  · exact Or.inr (Or.inl ⟨z1, z2, z3, z⟩)
  · exact Or.inr (Or.inr (Or.inl ⟨z1, z2, z3, z⟩))
  · exact Or.inr (Or.inr (Or.inr (Or.inl ⟨z1, z2, z⟩)))
  · exact Or.inr (Or.inr (Or.inr (Or.inr (Or.inl ⟨z1, z2, z3⟩))))
  · exact Or.inr (Or.inr (Or.inr (Or.inr (Or.inr (Or.inl ⟨z1, z2, z3, z4, z⟩)))))
  · exact Or.inr (Or.inr (Or.inr (Or.inr (Or.inr (Or.inr ⟨z1, z2, z3, z4⟩)))))
/-- the class: not at the end -/
theorem x_on {g h : Hp} {st c i pl J d : Nat} {r : Option Value × Hp × Nat} (G : GS g) (X : SX g h) (hc : c < qc g) (hi : i < qm g c) (hmk : (h.1 208 4).toInt < 80) (hJ : J < 10) (hpl : pl < stLen J) (a9 : h.1 (152 + 12 * c + i) 9 = Int32.ofNat pl) (a7 : h.2 (152 + 12 * c + i) 7 = some (1000 + J)) (e : Ev d 42 (73, [some (.ref 208), some (.ref (148 + 12 * c)), some (.int (Int32.ofNat st)), some (.ref (152 + 12 * c + i))], [], h, fl_tot) r) : r = (none, h, fl_tot) := by
  obtain ⟨p10, hp0, hpl, -⟩ := cx G X hc hi hJ hpl a9 a7
  rcases y_do_e (nk := 0) (X.sq (G.c5 hc)) (G.T6 hc hi) (G.c5 hc) (G.i8 hc hi) (X.ak G hc hi) hmk e with ⟨-, w⟩ | ⟨q, -, -, -⟩ | ⟨q, -, -, -⟩
  · exact w
  · omega
  · omega
theorem x_end {g h : Hp} {st c i mk J d : Nat} {r : Option Value × Hp × Nat} (G : GS g) (X : SX g h) (hc : c < qc g) (hi : i < qm g c) (hmk : mk < 80) (e0 : h.1 208 4 = Int32.ofNat mk) (e4 : h.1 (148 + 12 * c) 4 = Int32.ofNat i) (hJ : J < 10) (l10 : stLen J < 10) (a9 : h.1 (152 + 12 * c + i) 9 = Int32.ofNat (stLen J)) (a7 : h.2 (152 + 12 * c + i) 7 = some (1000 + J)) (e : Ev d 42 (73, [some (.ref 208), some (.ref (148 + 12 * c)), some (.int (Int32.ofNat st)), some (.ref (152 + 12 * c + i))], [], h, fl_tot) r) : r = (none, fl_setI (fl_setI (fl_setI (fl_setI (fl_setI (fl_setI (fl_setI (fl_setI (fl_setI (fl_setI h (152 + 12 * c + i) 10 (Int32.ofInt 0)) (152 + 12 * c + i) 15 (h.1 (152 + 12 * c + i) 14)) (152 + 12 * c + i) 16 (if (h.1 (152 + 12 * c + i) 14).toInt = 0 then h.1 (152 + 12 * c + i) 13 else Int32.ofInt 0)) (152 + 12 * c + i) 18 (Int32.ofNat st)) (148 + 12 * c) 4 (Int32.ofNat (i + 1))) 209 (4 * mk) (Int32.ofNat c)) 209 (4 * mk + 1) (Int32.ofNat i)) 209 (4 * mk + 2) (Int32.ofInt 1)) 209 (4 * mk + 3) (Int32.ofNat st)) 208 4 (Int32.ofNat (mk + 1)), fl_tot) := by
  have c5 := G.c5 hc
  have i8 := G.i8 hc hi
  have hl : (h.1 (152 + 12 * c + i) 9).toInt = (Int32.ofNat (fl_len h (sfO h c i))).toInt := by rw [sfO_eq a7, len_st hJ, a9]
  have W := y_do_e (nk := 0) (X.sq c5) (G.T6 hc hi) c5 i8 (X.ak G hc hi) (by rw [e0, i32n (by omega)]; omega) e
  have o1 : Int32.ofNat mk + Int32.ofInt 1 = Int32.ofNat (mk + 1) := o32 (by omega)
  have o2 : Int32.ofNat i + Int32.ofInt 1 = Int32.ofNat (i + 1) := o32 (by omega)
  have m0 : (Int32.ofNat mk * Int32.ofInt 4).toNatClampNeg = 4 * mk := mk40 (by omega)
  have m1 : (Int32.ofNat mk * Int32.ofInt 4 + Int32.ofInt 1).toNatClampNeg = 4 * mk + 1 := mk4 (by omega) (by decide)
  have m2 : (Int32.ofNat mk * Int32.ofInt 4 + Int32.ofInt 2).toNatClampNeg = 4 * mk + 2 := mk4 (by omega) (by decide)
  have m3 : (Int32.ofNat mk * Int32.ofInt 4 + Int32.ofInt 3).toNatClampNeg = 4 * mk + 3 := mk4 (by omega) (by decide)
  simp only [e0, e4, o1, o2, m0, m1, m2, m3] at W
  rcases W with ⟨q, -⟩ | ⟨-, q, -, w⟩ | ⟨-, q, -, w⟩
  · omega
  · rw [if_neg q]
    exact w
  · rw [if_pos q]
    exact w

theorem ph_w {g h hm : Hp} {st c i mk d d2 : Nat} {sI mI bI : Int32} {r r2 : Option Value × Hp × Nat} (G : GS g) (R : RRM g h hm st c i (st + 1) (CUw g h hm c i (-1))) (e16 : hm.1 223 16 = Int32.ofNat mk) (hmk : mk < 80) (st9 : st < 600) (e : Ev d 42 (73, [some (.ref 208), some (.ref (148 + 12 * c)), some (.int (Int32.ofNat st)), some (.ref (152 + 12 * c + i))], [], h, fl_tot) r) (e2 : Ev d2 158 (256, [some (.ref 223), some (.int (Int32.ofNat c)), some (.int (Int32.ofNat (8 * c + i))), some (.int sI), some (.int mI), some (.int bI)], [], hm, fl_tot) r2) : ∃ h' hm', r = (none, h', fl_tot) ∧ r2 = (none, hm', fl_tot) ∧ RR g h' hm' (st + 1) := by
  obtain ⟨⟨X, M, S15, K, hT⟩, RT, RO, hc, hi, CK, b1, b2, U⟩ := id R
  have c5 := G.c5 hc
  have i8 := G.i8 hc hi
  have hJ := G.len hc hi
  have e08 : h.1 208 4 = Int32.ofNat mk := K.1.trans e16
  have m80 : (h.1 208 4).toInt < 80 := by rw [e08, i32n (by omega)]; omega
  have tk : ∀ {v : Int32}, (fl_setI (fl_setI hm 244 c v) 223 15 (Int32.ofNat (st + 1))).1 223 15 = Int32.ofNat (st + 1) := setI_at
  have tt : ∀ {v : Int32} {d : Nat} {r : Option Value × Hp × Nat}, Ev d 158 (312, [some (.ref 223), some (.int (Int32.ofNat c)), some (.int (Int32.ofNat (8 * c + i))), some (.int sI), some (.int mI), some (.int bI)], [], fl_setI hm 244 c v, fl_tot) r → r = (none, fl_setI (fl_setI hm 244 c v) 223 15 (Int32.ofNat (st + 1)), fl_tot) := fun {v d r} e => by
    have := z_does_t (M.gx (c := c) (v := v)).1 e
    rw [setI_no (by omega), S15, o32 (by omega)] at this
    exact this
  obtain ⟨⟨u1, u2⟩, u3, u4, u5, u6, u7, pl, u8, u9⟩ := U
  have x := x_on G X hc hi m80 (by omega) u8 u9 u5 e
  obtain ⟨TG, Z⟩ := z_e G M hT hc hi u4 (by omega) e2
  rw [u6, u2, i32_0, i32_1] at Z
  rcases Z with ⟨-, -, z⟩ | ⟨-, z, -⟩ | ⟨-, z, -⟩ | ⟨z, -⟩ | ⟨z, -⟩ | ⟨z, -⟩ | ⟨z, -⟩
  · refine ⟨_, _, x, tt z, RRM.tick G (Int.le_refl _) R (fun K j z1 z2 => by rw [setI_no (by omega), setI_no (by omega)]) rfl setI_at (TG.w (r := 223) (k := 15) (lo := 0) (hi := 600) (by decide +kernel) (by rw [i32n (by omega)]; omega)) (Or.inl ⟨⟨u1, ?_⟩, ?_, ?_, u5, ?_, u7, pl, u8, u9⟩)⟩
    · rw [setI_no (by omega), setI_no (by omega)]; exact u2
    · rw [setI_no (by omega), setI_no (by omega)]; exact u3
    · rw [setI_no (by omega), setI_at]; rfl
    · rw [setI_no (by omega), setI_no (by omega)]; exact u6
  all_goals omega

theorem ph_s {g h hm : Hp} {st c i mk d d2 : Nat} {sI mI bI : Int32} {r r2 : Option Value × Hp × Nat} (G : GS g) (R : RRM g h hm st c i (st + 1) (CUs g h hm c i 2 2 3)) (hs : sI.toInt < 200) (e16 : hm.1 223 16 = Int32.ofNat mk) (hmk : mk < 80) (st9 : st < 600) (e : Ev d 42 (73, [some (.ref 208), some (.ref (148 + 12 * c)), some (.int (Int32.ofNat st)), some (.ref (152 + 12 * c + i))], [], h, fl_tot) r) (e2 : Ev d2 158 (256, [some (.ref 223), some (.int (Int32.ofNat c)), some (.int (Int32.ofNat (8 * c + i))), some (.int sI), some (.int mI), some (.int bI)], [], hm, fl_tot) r2) : ∃ h' hm', r = (none, h', fl_tot) ∧ r2 = (none, hm', fl_tot) ∧ RR g h' hm' (st + 1) := by
  obtain ⟨⟨X, M, S15, K, hT⟩, RT, RO, hc, hi, CK, b1, b2, U⟩ := id R
  have c5 := G.c5 hc
  have i8 := G.i8 hc hi
  have hJ := G.len hc hi
  have e08 : h.1 208 4 = Int32.ofNat mk := K.1.trans e16
  have m80 : (h.1 208 4).toInt < 80 := by rw [e08, i32n (by omega)]; omega
  have tk : ∀ {v : Int32}, (fl_setI (fl_setI hm 244 c v) 223 15 (Int32.ofNat (st + 1))).1 223 15 = Int32.ofNat (st + 1) := setI_at
  have tt : ∀ {v : Int32} {d : Nat} {r : Option Value × Hp × Nat}, Ev d 158 (312, [some (.ref 223), some (.int (Int32.ofNat c)), some (.int (Int32.ofNat (8 * c + i))), some (.int sI), some (.int mI), some (.int bI)], [], fl_setI hm 244 c v, fl_tot) r → r = (none, fl_setI (fl_setI hm 244 c v) 223 15 (Int32.ofNat (st + 1)), fl_tot) := fun {v d r} e => by
    have := z_does_t (M.gx (c := c) (v := v)).1 e
    rw [setI_no (by omega), S15, o32 (by omega)] at this
    exact this
  obtain ⟨⟨u1, u2⟩, u3, u4, u5, u6, u7, u8, u9⟩ := U
  have x := x_on G X hc hi m80 (J := 9) (by decide) (pl := 2) (by decide) u3 u5 e
  obtain ⟨TG, Z⟩ := z_e G M hT hc hi u4 (by omega) e2
  have S3 : stF (qK g c i) (qO g c i) (qA g c i) (qF g c i) c (2 + 1) = 200 := by
    unfold stF stO
    rw [u7]
    simp
  rw [u6, u2, i32_0, i32_1, S3] at Z
  rcases Z with ⟨z, -⟩ | ⟨z, -⟩ | ⟨z, -⟩ | ⟨-, z, -⟩ | ⟨-, -, z⟩ | ⟨-, -, -, -, z⟩ | ⟨-, -, -, z⟩
  case inr.inr.inr.inr.inr.inl =>
    refine ⟨_, _, x, tt z, RRM.tick G (Int.le_refl _) R (fun K j z1 z2 => by rw [setI_no (by omega), setI_no (by omega)]) rfl setI_at (TG.w (r := 223) (k := 15) (lo := 0) (hi := 600) (by decide +kernel) (by rw [i32n (by omega)]; omega)) (Or.inr (Or.inr ⟨⟨u1, ?_⟩, u3, ?_, u5, ?_, u7, ?_, fun z m h4 hh => ?_⟩))⟩
    · rw [setI_no (by omega), setI_no (by omega)]; exact u2
    · rw [setI_no (by omega), setI_at]; rfl
    · rw [setI_no (by omega), setI_no (by omega)]; exact u6
    · rw [setI_no (by omega), setI_no (by omega)]; exact u8
    · rw [setI_no (by omega), setI_no (by omega)]; exact u9 z m h4 hh
  all_goals omega

theorem ov_fin {g h hm : Hp} {st c i mk d : Nat} {v how ans : Int32} {sI mI bI : Int32} {r2 : Option Value × Hp × Nat} {Z : Prop} (G : GS g) (R : RRM g h hm st c i (st + 1) Z) (e16 : hm.1 223 16 = Int32.ofNat mk) (hmk : mk < 80) (st9 : st < 600) (TG : TInv (fl_setI hm 244 c v)) (h04 : 0 ≤ how.toInt ∧ how.toInt ≤ 4) (hha : how.toInt ≠ 0 → ans = Int32.ofInt 0) (hk5 : qK g c i = 5 → how.toInt ≠ 1 ∧ how.toInt ≠ 2) (e5 : Ev d 158 (312, [some (.ref 223), some (.int (Int32.ofNat c)), some (.int (Int32.ofNat (8 * c + i))), some (.int sI), some (.int mI), some (.int bI)], [], fl_setI (fl_setI (fl_setI (fl_setI (fl_setI (fl_setI (fl_setI (fl_setI (fl_setI (fl_setI (fl_setI (fl_setI hm 244 c v) 235 mk (Int32.ofNat (8 * c + i))) 236 mk (Int32.ofInt 1)) 237 mk (Int32.ofNat st)) 242 (8 * c + i) (Int32.ofNat mk)) 223 16 (Int32.ofNat (mk + 1))) 239 (8 * c + i) how) 238 (8 * c + i) ans) 243 c (Int32.ofNat (i + 1))) 244 c (Int32.ofInt 0)) 245 c (Int32.ofInt 0)) 251 c (Int32.ofInt 0), fl_tot) r2) : ∃ hm', r2 = (none, hm', fl_tot) ∧ RR g (fl_setI (fl_setI (fl_setI (fl_setI (fl_setI (fl_setI (fl_setI (fl_setI (fl_setI (fl_setI h (152 + 12 * c + i) 10 (Int32.ofInt 0)) (152 + 12 * c + i) 15 how) (152 + 12 * c + i) 16 ans) (152 + 12 * c + i) 18 (Int32.ofNat st)) (148 + 12 * c) 4 (Int32.ofNat (i + 1))) 209 (4 * mk) (Int32.ofNat c)) 209 (4 * mk + 1) (Int32.ofNat i)) 209 (4 * mk + 2) (Int32.ofInt 1)) 209 (4 * mk + 3) (Int32.ofNat st)) 208 4 (Int32.ofNat (mk + 1))) hm' (st + 1) := by
  obtain ⟨HQ, eHQ⟩ : ∃ z, z = fl_setI (fl_setI (fl_setI (fl_setI (fl_setI (fl_setI (fl_setI (fl_setI (fl_setI (fl_setI (fl_setI (fl_setI hm 244 c v) 235 mk (Int32.ofNat (8 * c + i))) 236 mk (Int32.ofInt 1)) 237 mk (Int32.ofNat st)) 242 (8 * c + i) (Int32.ofNat mk)) 223 16 (Int32.ofNat (mk + 1))) 239 (8 * c + i) how) 238 (8 * c + i) ans) 243 c (Int32.ofNat (i + 1))) 244 c (Int32.ofInt 0)) 245 c (Int32.ofInt 0)) 251 c (Int32.ofInt 0) := ⟨_, rfl⟩
  rw [← eHQ] at e5
  have S : SH HQ.2 := by rw [eHQ]; exact R.1.2.1.1
  have e15 : HQ.1 223 15 = Int32.ofNat st := by
    rw [eHQ]
    simp (disch := omega) only [setI_no]
    exact R.1.2.2.1
  have e6 := z_does_t S e5
  rw [e15, o32 (by omega)] at e6
  refine ⟨_, e6, ?_⟩
  rw [eHQ]
  exact RRM.over (hb_ := fl_setI hm 244 c v) (mk := mk) (how := how) (ans := ans) G R e16 hmk st9 h04 hha hk5 (fun K j z => setI_no (by omega)) rfl TG

theorem ph_se {g h hm : Hp} {st c i mk d d2 : Nat} {sI mI bI : Int32} {r r2 : Option Value × Hp × Nat} (G : GS g) (R : RRM g h hm st c i (st + 1) (CUs g h hm c i 3 3 4)) (hs : 200 ≤ sI.toInt) (e16 : hm.1 223 16 = Int32.ofNat mk) (hmk : mk < 80) (st9 : st < 600) (e : Ev d 42 (73, [some (.ref 208), some (.ref (148 + 12 * c)), some (.int (Int32.ofNat st)), some (.ref (152 + 12 * c + i))], [], h, fl_tot) r) (e2 : Ev d2 158 (256, [some (.ref 223), some (.int (Int32.ofNat c)), some (.int (Int32.ofNat (8 * c + i))), some (.int sI), some (.int mI), some (.int bI)], [], hm, fl_tot) r2) : ∃ h' hm', r = (none, h', fl_tot) ∧ r2 = (none, hm', fl_tot) ∧ RR g h' hm' (st + 1) := by
  obtain ⟨⟨X, M, S15, K, hT⟩, RT, RO, hc, hi, CK, b1, b2, U⟩ := id R
  have c5 := G.c5 hc
  have i8 := G.i8 hc hi
  have hJ := G.len hc hi
  have e08 : h.1 208 4 = Int32.ofNat mk := K.1.trans e16
  have m80 : (h.1 208 4).toInt < 80 := by rw [e08, i32n (by omega)]; omega
  have tk : ∀ {v : Int32}, (fl_setI (fl_setI hm 244 c v) 223 15 (Int32.ofNat (st + 1))).1 223 15 = Int32.ofNat (st + 1) := setI_at
  have tt : ∀ {v : Int32} {d : Nat} {r : Option Value × Hp × Nat}, Ev d 158 (312, [some (.ref 223), some (.int (Int32.ofNat c)), some (.int (Int32.ofNat (8 * c + i))), some (.int sI), some (.int mI), some (.int bI)], [], fl_setI hm 244 c v, fl_tot) r → r = (none, fl_setI (fl_setI hm 244 c v) 223 15 (Int32.ofNat (st + 1)), fl_tot) := fun {v d r} e => by
    have := z_does_t (M.gx (c := c) (v := v)).1 e
    rw [setI_no (by omega), S15, o32 (by omega)] at this
    exact this
  obtain ⟨⟨u1, u2⟩, u3, u4, u5, u6, u7, u8, u9⟩ := U
  have xe := x_end G X hc hi hmk e08 CK.1.1 (J := 9) (by decide) (by decide) u3 u5 e
  obtain ⟨TG, Z⟩ := z_e G M hT hc hi u4 (by omega) e2
  rw [u6, u2, i32_0, i32_1] at Z
  rcases Z with ⟨z, -⟩ | ⟨z, -⟩ | ⟨z, -⟩ | ⟨-, -, z⟩ | ⟨-, z, -⟩ | ⟨-, z, -⟩ | ⟨-, z, -⟩
  case inr.inr.inr.inl =>
    obtain ⟨d3, v3, h3, n3, e3, e4⟩ := z_306 z
    have E := ends_once (h := h) (hb_ := fl_setI hm 244 c (Int32.ofInt (3 + 1))) G (M.gx) hc hi u7 (Or.inr (by rw [setI_no (by omega), u6]; decide)) ⟨fun _ => by rw [setI_no (by omega)]; exact u8.1, fun z => by rw [setI_no (by omega), u6] at z; exact absurd z (by decide)⟩ (by rw [u8.2, setI_no (by omega), u6, if_neg (fun z => absurd z.1 (by decide))]) (st := st) (mk := mk) hmk (by omega) (by rw [setI_no (by omega)]; exact e16) (by rw [setI_no (by omega)]; exact S15) (by rw [setI_no (by omega)]; exact CK.1.2.1) e3
    obtain ⟨E, how0, how4⟩ := E
    obtain ⟨y1, y2, y3⟩ := tri E
    subst y2
    obtain ⟨hm', y4, y5⟩ := ov_fin (v := (Int32.ofInt (3 + 1))) (how := (h.1 (152 + 12 * c + i) 14)) (ans := (if (h.1 (152 + 12 * c + i) 14).toInt = 0 then h.1 (152 + 12 * c + i) 13 else Int32.ofInt 0)) (mk := mk) G R e16 hmk st9 TG ⟨how0, how4⟩ (fun z => if_neg z) (fun _ => by have := u8.2; omega) (e4 y1 y3)
    exact ⟨_, hm', xe, y4, y5⟩
  all_goals omega

theorem ends_n {g h hm : Hp} {st c i p mk d : Nat} {r : Option Value × Hp × Nat} (G : GS g) (M : SM g hm) (hc : c < qc g) (hi : i < qm g c) (e51 : hm.1 251 c = Int32.ofInt 0) (u7 : NT g h hm c i (p + 1)) (pe : p + 1 = stLen (qJ g c i)) (S15 : hm.1 223 15 = Int32.ofNat st) (e43 : hm.1 243 c = Int32.ofNat i) (e16 : hm.1 223 16 = Int32.ofNat mk) (hmk : mk < 80) (st9 : st < 600) (e3 : Ev d 177 (0, [some (.ref 223), some (.int (Int32.ofNat c)), some (.int (Int32.ofNat (8 * c + i))), none, none, none, none], [], fl_setI hm 244 c (Int32.ofInt ((p : Int) + 1)), fl_tot) r) : r = (none, fl_setI (fl_setI (fl_setI (fl_setI (fl_setI (fl_setI (fl_setI (fl_setI (fl_setI (fl_setI (fl_setI (fl_setI hm 244 c (Int32.ofInt ((p : Int) + 1))) 235 mk (Int32.ofNat (8 * c + i))) 236 mk (Int32.ofInt 1)) 237 mk (Int32.ofNat st)) 242 (8 * c + i) (Int32.ofNat mk)) 223 16 (Int32.ofNat (mk + 1))) 239 (8 * c + i) (h.1 (152 + 12 * c + i) 14)) 238 (8 * c + i) (if (h.1 (152 + 12 * c + i) 14).toInt = 0 then h.1 (152 + 12 * c + i) 13 else Int32.ofInt 0)) 243 c (Int32.ofNat (i + 1))) 244 c (Int32.ofInt 0)) 245 c (Int32.ofInt 0)) 251 c (Int32.ofInt 0), fl_tot) ∧ 0 ≤ (h.1 (152 + 12 * c + i) 14).toInt ∧ (h.1 (152 + 12 * c + i) 14).toInt ≤ 4 := by
  have c5 := G.c5 hc
  have u6 := e51
  obtain ⟨rl, rl5⟩ := G.rl hc hi
  rw [← pe] at rl rl5
  have hk := G.k hc hi
  have k6 : qK g c i = 0 ∨ qK g c i = 1 ∨ qK g c i = 2 ∨ qK g c i = 3 ∨ qK g c i = 4 ∨ qK g c i = 5 := by omega
  rcases k6 with hk | hk | hk | hk | hk | hk
  · exact ends_map (h := h) (hb_ := fl_setI hm 244 c (Int32.ofInt ((p : Int) + 1))) G (M.gx) hc hi hk (by rw [setI_no (by omega)]; exact (u7.1 hk rl).1) (by rw [setI_no (by omega)]; exact (u7.1 hk rl).2) (st := st) (mk := mk) hmk (by omega) (by rw [setI_no (by omega)]; exact e16) (by rw [setI_no (by omega)]; exact S15) (by rw [setI_no (by omega)]; exact e43) e3
  · have nq : h.1 (152 + 12 * c + i) 13 = (if qO g c i = 0 then g.1 230 (8 * c + i) else hm.1 248 c) ∧ (h.1 (152 + 12 * c + i) 14).toInt = (if qO g c i = 0 ∨ (hm.1 247 c).toInt ≠ 0 then 0 else 1) := by
      obtain ⟨w1, w2⟩ := u7.2.1 hk rl
      by_cases y : qO g c i = 0
      · rw [if_pos y, if_pos (Or.inl y)]; exact w1 y
      · rw [if_neg y, (w2 y).2]
        refine ⟨(w2 y).1, ?_⟩
        by_cases y2 : (hm.1 247 c).toInt = 0
        · rw [if_neg (fun z => z y2), if_neg (fun z => z.elim y (fun w => w y2))]
        · rw [if_pos y2, if_pos (Or.inr y2)]
    exact ends_queue (h := h) (hb_ := fl_setI hm 244 c (Int32.ofInt ((p : Int) + 1))) G (M.gx) hc hi hk (by rw [setI_no (by omega)]; exact nq.1) (by rw [setI_no (by omega)]; exact nq.2) (st := st) (mk := mk) hmk (by omega) (by rw [setI_no (by omega)]; exact e16) (by rw [setI_no (by omega)]; exact S15) (by rw [setI_no (by omega)]; exact e43) e3
  · exact ends_deque (h := h) (hb_ := fl_setI hm 244 c (Int32.ofInt ((p : Int) + 1))) G (M.gx) hc hi hk (by rw [setI_no (by omega), setI_no (by omega)]; exact (u7.2.2.1 hk rl).2) (by rw [setI_no (by omega)]; exact (u7.2.2.1 hk rl).1) (st := st) (mk := mk) hmk (by omega) (by rw [setI_no (by omega)]; exact e16) (by rw [setI_no (by omega)]; exact S15) (by rw [setI_no (by omega)]; exact e43) e3
  · exact ends_counter (h := h) (hb_ := fl_setI hm 244 c (Int32.ofInt ((p : Int) + 1))) G (M.gx) hc hi hk (by rw [setI_no (by omega)]; exact (u7.2.2.2.1 hk rl).1) (u7.2.2.2.1 hk rl).2 (st := st) (mk := mk) hmk (by omega) (by rw [setI_no (by omega)]; exact e16) (by rw [setI_no (by omega)]; exact S15) (by rw [setI_no (by omega)]; exact e43) e3
  · exact ends_copies (h := h) (hb_ := fl_setI hm 244 c (Int32.ofInt ((p : Int) + 1))) G (M.gx) hc hi hk (by rw [setI_no (by omega)]; exact (u7.2.2.2.2.1 hk rl).1) (by rw [setI_no (by omega)]; exact (u7.2.2.2.2.1 hk rl).2.1) (st := st) (mk := mk) hmk (by omega) (by rw [setI_no (by omega)]; exact e16) (by rw [setI_no (by omega)]; exact S15) (by rw [setI_no (by omega)]; exact e43) e3
  · exact ends_once (h := h) (hb_ := fl_setI hm 244 c (Int32.ofInt ((p : Int) + 1))) G (M.gx) hc hi hk (Or.inl (by rw [setI_no (by omega), u6]; decide)) ⟨fun z => by rw [setI_no (by omega), u6] at z; exact absurd (by decide) z, fun _ z => (u7.2.2.2.2.2 hk rl).2 (rl5 hk).1 (by rw [setI_no (by omega)] at z; exact z)⟩ (by rw [(u7.2.2.2.2.2 hk rl).1, setI_no (by omega), setI_no (by omega), u6]; have := (rl5 hk).2; by_cases y : (hm.1 250 c).toInt = 0; all_goals first | (rw [if_neg (fun z => z.2 y), if_neg (fun z => z.2 y)]; done) | (rw [if_pos ⟨by omega, y⟩, if_pos ⟨by decide, y⟩])) (st := st) (mk := mk) hmk (by omega) (by rw [setI_no (by omega)]; exact e16) (by rw [setI_no (by omega)]; exact S15) (by rw [setI_no (by omega)]; exact e43) e3

set_option maxHeartbeats 4000000 in
theorem ph_n {g h hm : Hp} {st c i p mk d d2 : Nat} {sI mI bI : Int32} {r r2 : Option Value × Hp × Nat} (G : GS g) (R : RRM g h hm st c i (st + 1) (CUn g h hm c i (p + 1) p (p + 1))) (hp : p < stLen (qJ g c i)) (e16 : hm.1 223 16 = Int32.ofNat mk) (hmk : mk < 80) (st9 : st < 600) (e : Ev d 42 (73, [some (.ref 208), some (.ref (148 + 12 * c)), some (.int (Int32.ofNat st)), some (.ref (152 + 12 * c + i))], [], h, fl_tot) r) (e2 : Ev d2 158 (256, [some (.ref 223), some (.int (Int32.ofNat c)), some (.int (Int32.ofNat (8 * c + i))), some (.int sI), some (.int mI), some (.int bI)], [], hm, fl_tot) r2) : ∃ h' hm', r = (none, h', fl_tot) ∧ r2 = (none, hm', fl_tot) ∧ RR g h' hm' (st + 1) := by
  obtain ⟨⟨X, M, S15, K, hT⟩, RT, RO, hc, hi, CK, b1, b2, U⟩ := id R
  have c5 := G.c5 hc
  have i8 := G.i8 hc hi
  have hJ := G.len hc hi
  have e08 : h.1 208 4 = Int32.ofNat mk := K.1.trans e16
  have m80 : (h.1 208 4).toInt < 80 := by rw [e08, i32n (by omega)]; omega
  have tk : ∀ {v : Int32}, (fl_setI (fl_setI hm 244 c v) 223 15 (Int32.ofNat (st + 1))).1 223 15 = Int32.ofNat (st + 1) := setI_at
  have tt : ∀ {v : Int32} {d : Nat} {r : Option Value × Hp × Nat}, Ev d 158 (312, [some (.ref 223), some (.int (Int32.ofNat c)), some (.int (Int32.ofNat (8 * c + i))), some (.int sI), some (.int mI), some (.int bI)], [], fl_setI hm 244 c v, fl_tot) r → r = (none, fl_setI (fl_setI hm 244 c v) 223 15 (Int32.ofNat (st + 1)), fl_tot) := fun {v d r} e => by
    have := z_does_t (M.gx (c := c) (v := v)).1 e
    rw [setI_no (by omega), S15, o32 (by omega)] at this
    exact this
  obtain ⟨⟨u1, u2⟩, u3, u4, u5, u6, u7, u8⟩ := U
  obtain ⟨TG, Z⟩ := z_e G M hT hc hi u4 (by omega) e2
  rw [u6, u2, i32_0] at Z
  have pc1 : ((p : Int) + 1) = ((p + 1 : Nat) : Int) := by omega
  by_cases he : p + 1 < stLen (qJ g c i)
  · have x := x_on G X hc hi m80 (by omega) he u3 u5 e
    have S3 : stF (qK g c i) (qO g c i) (qA g c i) (qF g c i) c ((p : Int) + 1) ≠ 0 := by
      rw [pc1]
      exact (G.inn hc hi he).2.1
    rcases Z with ⟨-, z, -⟩ | ⟨-, -, -, z⟩ | ⟨-, -, z, -⟩ | ⟨z, -⟩ | ⟨z, -⟩ | ⟨z, -⟩ | ⟨z, -⟩
    case inr.inl =>
      refine ⟨_, _, x, tt z, RRM.tick G (Int.le_refl _) R (fun K j z1 z2 => by rw [setI_no (by omega), setI_no (by omega)]) rfl setI_at (TG.w (r := 223) (k := 15) (lo := 0) (hi := 600) (by decide +kernel) (by rw [i32n (by omega)]; omega)) (Or.inr (Or.inl ⟨p + 1, he, ⟨u1, ?_⟩, u3, ?_, u5, ?_, u7.fr2 rfl rfl rfl (fun _ => rfl) (fun K h1 h2 => ?_) (fun K j hK => ?_), fun z m h4 hh => ?_⟩))⟩
      · rw [setI_no (by omega), setI_no (by omega)]; exact u2
      · rw [setI_no (by omega), setI_at]; rfl
      · rw [setI_no (by omega), setI_no (by omega)]; exact u6
      · rw [setI_no (by omega), setI_no (by omega)]
      · rw [setI_no (by omega), setI_no (by omega)]
      · rw [setI_no (by omega), setI_no (by omega)]; exact u8 z m h4 hh
    all_goals first | (exact absurd z S3) | omega
  · have pe : p + 1 = stLen (qJ g c i) := by omega
    have xe := x_end G X hc hi hmk e08 CK.1.1 (J := qJ g c i) (by omega) (by omega) (by rw [← pe]; exact u3) u5 e
    have S3 : stF (qK g c i) (qO g c i) (qA g c i) (qF g c i) c ((p : Int) + 1) = 0 := by
      rw [pc1, pe]
      exact G.en hc hi
    rcases Z with ⟨-, z, -⟩ | ⟨-, -, z, -⟩ | ⟨-, -, -, z⟩ | ⟨z, -⟩ | ⟨z, -⟩ | ⟨z, -⟩ | ⟨z, -⟩
    case inr.inr.inl =>
      obtain ⟨d3, v3, h3, n3, e3, e4⟩ := z_306 z
      have E := ends_n (h := h) G M hc hi u6 u7 pe S15 CK.1.2.1 e16 hmk st9 e3
      obtain ⟨E, how0, how4⟩ := E
      obtain ⟨y1, y2, y3⟩ := tri E
      subst y2
      obtain ⟨hm', y4, y5⟩ := ov_fin (v := (Int32.ofInt ((p : Int) + 1))) (how := (h.1 (152 + 12 * c + i) 14)) (ans := (if (h.1 (152 + 12 * c + i) 14).toInt = 0 then h.1 (152 + 12 * c + i) 13 else Int32.ofInt 0)) (mk := mk) G R e16 hmk st9 TG ⟨how0, how4⟩ (fun z => if_neg z) (fun hk => by
        have rl := (G.rl hc hi).1
        rw [← pe] at rl
        have := (u7.2.2.2.2.2 hk rl).1
        split at this <;> omega) (e4 y1 y3)
      exact ⟨_, hm', xe, y4, y5⟩
    all_goals first | (exact absurd S3 z) | omega
