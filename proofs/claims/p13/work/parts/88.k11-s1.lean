
set_option maxRecDepth 20000
/-! AN ACT BEGINS, AN ACT ENDS: marks on both sides -/
theorem mk4 {m k : Nat} (hm : m < 100) (hk : k < 4) : (Int32.ofNat m * Int32.ofInt 4 + Int32.ofInt k).toNatClampNeg = 4 * m + k := of_decide_eq_true (List.all_eq_true.mp (List.all_eq_true.mp (show ((List.range 100).all fun m => (List.range 4).all fun k => decide ((Int32.ofNat m * Int32.ofInt 4 + Int32.ofInt k).toNatClampNeg = 4 * m + k)) = true by decide +kernel) m (List.mem_range.mpr hm)) k (List.mem_range.mpr hk))
theorem mk40 {m : Nat} (hm : m < 100) : (Int32.ofNat m * Int32.ofInt 4).toNatClampNeg = 4 * m := of_decide_eq_true (List.all_eq_true.mp (show ((List.range 100).all fun m => decide ((Int32.ofNat m * Int32.ofInt 4).toNatClampNeg = 4 * m)) = true by decide +kernel) m (List.mem_range.mpr hm))
/-- the setup of the class's heap, over writes elsewhere -/
theorem SX.low {g h h' : Hp} (G : GS g) (a : h'.2 = h.2) (b : ∀ r j : Nat, (r = 1 ∨ (4 ≤ r ∧ r < 148 ∧ 6 ≤ j ∧ j ≤ 8) ∨ (148 ≤ r ∧ r < 208 ∧ j ≤ 3) ∨ (152 ≤ r ∧ r < 208 ∧ (r - 148) % 12 ≠ 0 ∧ j ≤ 6) ∨ 1000 ≤ r) → h'.1 r j = h.1 r j) (X : SX g h) : SX g h' := by
  have t6 := G.1.1
  have c5 := G.1.2.2.1
  obtain ⟨x1, ⟨x2, x3⟩, x4, x5, x6, x7⟩ := X
  refine ⟨by rw [a]; exact x1, ⟨?_, ?_⟩, fun u hu => ?_, fun o ho => ⟨?_, fun j hj => ⟨?_, ?_, ?_⟩⟩, fun o ho => ?_, fun j p h1 h2 => ?_⟩
  · rw [b _ _ (by omega)]; exact x2
  · rw [b _ _ (by omega)]; exact x3
  · rw [b _ 6 (by omega), b _ 7 (by omega), b _ 8 (by omega)]; exact x4 u hu
  · rw [b _ _ (by omega)]; exact (x5 o ho).1
  · rw [b _ _ (by omega)]; exact ((x5 o ho).2 j hj).1
  · rw [b _ _ (by omega)]; exact ((x5 o ho).2 j hj).2.1
  · rw [a]; exact ((x5 o ho).2 j hj).2.2
  · obtain ⟨y1, y2⟩ := x6 o ho
    refine ⟨?_, fun j hj => ?_⟩
    · rw [b _ _ (by omega)]; exact y1
    · have j8 := G.i8 ho hj
      rw [b _ 2 (by omega), b _ 3 (by omega), b _ 4 (by omega), b _ 5 (by omega), b _ 6 (by omega)]
      exact y2 j hj
  · rw [b _ _ (by omega)]; exact x7 j p h1 h2
theorem SM.low {g h h' : Hp} (a : h'.2 = h.2) (b : ∀ K j : Nat, (K = 223 ∧ (j = 0 ∨ j = 4)) ∨ (224 ≤ K ∧ K ≤ 234) → h'.1 K j = h.1 K j) (X : SM g h) : SM g h' := by
  obtain ⟨x1, x2, x3, x4⟩ := X
  refine ⟨by rw [a]; exact x1, ?_, ?_, fun K j h1 h2 => ?_⟩
  · rw [b _ _ (by omega)]; exact x2
  · rw [b _ _ (by omega)]; exact x3
  · rw [b _ _ (by omega)]; exact x4 K j h1 h2
/-- one more mark -/
theorem MK.add {h hm h' hm' : Hp} {st c i mk : Nat} {b1 b2 : Int} {en : Int32} (c5 : c < 5) (i8 : i < 8) (hmk : mk < 90) (st9 : st < 900) (e0 : hm.1 223 16 = Int32.ofNat mk) (M : MK h hm b1 b2) (hb1 : b1 ≤ st + 1) (hb2 : b2 ≤ st) (hb : b1 ≤ st ∨ en.toInt = 1) (x1 : h'.1 208 4 = Int32.ofNat (mk + 1)) (x2 : h'.1 209 (4 * mk) = Int32.ofNat c ∧ h'.1 209 (4 * mk + 1) = Int32.ofNat i ∧ h'.1 209 (4 * mk + 2) = en ∧ h'.1 209 (4 * mk + 3) = Int32.ofNat st) (x3 : ∀ j : Nat, j < 4 * mk → h'.1 209 j = h.1 209 j) (m1 : hm'.1 223 16 = Int32.ofNat (mk + 1)) (m2 : hm'.1 235 mk = Int32.ofNat (8 * c + i) ∧ hm'.1 236 mk = en ∧ hm'.1 237 mk = Int32.ofNat st) (m3 : ∀ K j : Nat, 235 ≤ K → K ≤ 237 → j < mk → hm'.1 K j = hm.1 K j) {b3 : Int} (hb3 : b3 = st ∨ (en.toInt = 1 ∧ b3 = st + 1)) : MK h' hm' (st + 1) (if en.toInt = 0 then st else st + 1) := by
  obtain ⟨k1, k2⟩ := M
  have em : (hm.1 223 16).toInt = mk := by rw [e0, i32n (by omega)]
  have est : (Int32.ofNat st).toInt = st := i32n (by omega)
  unfold MK
  rw [m1, i32n (by omega)]
  refine ⟨x1, fun j hj => ?_⟩
  by_cases y : j = mk
  · subst y
    rw [m2.1, m2.2.1, m2.2.2, x2.1, x2.2.1, x2.2.2.1, x2.2.2.2, o32c (by omega), est]
    refine ⟨⟨?_, ?_, rfl, rfl⟩, by omega, fun z => ?_, fun a ha => ?_⟩
    · rw [show (8 * c + i) / 8 = c by omega]
    · rw [show (8 * c + i) % 8 = i by omega]
    · rw [if_neg z]; omega
    · obtain ⟨-, q1, q2, -⟩ := k2 a (by omega)
      rw [m3 237 a (by decide) (by decide) ha, m3 236 a (by decide) (by decide) ha]
      exact ⟨by omega, fun z => by have := q2 z; omega⟩
  · have jl : j < mk := by omega
    obtain ⟨q0, q1, q2, q3⟩ := k2 j (by omega)
    rw [m3 235 j (by decide) (by decide) jl, m3 236 j (by decide) (by decide) jl, m3 237 j (by decide) (by decide) jl, x3 _ (by omega), x3 _ (by omega), x3 _ (by omega), x3 _ (by omega)]
    refine ⟨q0, by omega, fun z => ?_, fun a ha => ?_⟩
    · have := q2 z
      split <;> omega
    · rw [m3 237 a (by decide) (by decide) (by omega), m3 236 a (by decide) (by decide) (by omega)]
      exact q3 a ha
/-- the end of an act: both sides -/
theorem RRM.over {g h hm hb_ : Hp} {st c i mk : Nat} {how ans : Int32} {Z : Prop} (G : GS g) (R : RRM g h hm st c i (st + 1) Z) (e0 : hm.1 223 16 = Int32.ofNat mk) (hmk : mk < 80) (st9 : st < 600) (hhow : 0 ≤ how.toInt ∧ how.toInt ≤ 4) (hha : how.toInt ≠ 0 → ans = Int32.ofInt 0) (hk5 : qK g c i = 5 → how.toInt ≠ 1 ∧ how.toInt ≠ 2) (hb1 : ∀ K j : Nat, ¬ (K = 244 ∧ j = c) → hb_.1 K j = hm.1 K j) (hb2 : hb_.2 = hm.2) (hbT : TInv hb_) : RR g (fl_setI (fl_setI (fl_setI (fl_setI (fl_setI (fl_setI (fl_setI (fl_setI (fl_setI (fl_setI h (152 + 12 * c + i) 10 (Int32.ofInt 0)) (152 + 12 * c + i) 15 how) (152 + 12 * c + i) 16 ans) (152 + 12 * c + i) 18 (Int32.ofNat st)) (148 + 12 * c) 4 (Int32.ofNat (i + 1))) 209 (4 * mk) (Int32.ofNat c)) 209 (4 * mk + 1) (Int32.ofNat i)) 209 (4 * mk + 2) (Int32.ofInt 1)) 209 (4 * mk + 3) (Int32.ofNat st)) 208 4 (Int32.ofNat (mk + 1))) (fl_setI (fl_setI (fl_setI (fl_setI (fl_setI (fl_setI (fl_setI (fl_setI (fl_setI (fl_setI (fl_setI (fl_setI hb_ 235 mk (Int32.ofNat (8 * c + i))) 236 mk (Int32.ofInt 1)) 237 mk (Int32.ofNat st)) 242 (8 * c + i) (Int32.ofNat mk)) 223 16 (Int32.ofNat (mk + 1))) 239 (8 * c + i) how) 238 (8 * c + i) ans) 243 c (Int32.ofNat (i + 1))) 244 c (Int32.ofInt 0)) 245 c (Int32.ofInt 0)) 251 c (Int32.ofInt 0)) 223 15 (Int32.ofNat (st + 1))) (st + 1) := by
  obtain ⟨⟨X, M, S15, K, hT⟩, RT, RO, hc, hi, CK, b1, b2, -⟩ := id R
  have c5 := G.c5 hc
  have i8 := G.i8 hc hi
  have m8 := G.m8 hc
  have t6 := G.1.1
  have q5 := G.1.2.2.1
  obtain ⟨HX, eHX⟩ : ∃ z, z = fl_setI (fl_setI (fl_setI (fl_setI (fl_setI (fl_setI (fl_setI (fl_setI (fl_setI (fl_setI h (152 + 12 * c + i) 10 (Int32.ofInt 0)) (152 + 12 * c + i) 15 how) (152 + 12 * c + i) 16 ans) (152 + 12 * c + i) 18 (Int32.ofNat st)) (148 + 12 * c) 4 (Int32.ofNat (i + 1))) 209 (4 * mk) (Int32.ofNat c)) 209 (4 * mk + 1) (Int32.ofNat i)) 209 (4 * mk + 2) (Int32.ofInt 1)) 209 (4 * mk + 3) (Int32.ofNat st)) 208 4 (Int32.ofNat (mk + 1)) := ⟨_, rfl⟩
  obtain ⟨HM, eHM⟩ : ∃ z, z = fl_setI (fl_setI (fl_setI (fl_setI (fl_setI (fl_setI (fl_setI (fl_setI (fl_setI (fl_setI (fl_setI (fl_setI hb_ 235 mk (Int32.ofNat (8 * c + i))) 236 mk (Int32.ofInt 1)) 237 mk (Int32.ofNat st)) 242 (8 * c + i) (Int32.ofNat mk)) 223 16 (Int32.ofNat (mk + 1))) 239 (8 * c + i) how) 238 (8 * c + i) ans) 243 c (Int32.ofNat (i + 1))) 244 c (Int32.ofInt 0)) 245 c (Int32.ofInt 0)) 251 c (Int32.ofInt 0)) 223 15 (Int32.ofNat (st + 1)) := ⟨_, rfl⟩
  rw [← eHX, ← eHM]
  have em : (hm.1 223 16).toInt = mk := by rw [e0, i32n (by omega)]
  have x2 : HX.2 = h.2 := by rw [eHX]; rfl
  have m2 : HM.2 = hm.2 := by rw [eHM]; exact hb2
  -- what stands where
  have xo : ∀ r j : Nat, ¬ (r = (152 + 12 * c + i) ∧ (j = 10 ∨ j = 15 ∨ j = 16 ∨ j = 18)) → ¬ (r = 148 + 12 * c ∧ j = 4) → ¬ (r = 209 ∧ 4 * mk ≤ j ∧ j ≤ 4 * mk + 3) → ¬ (r = 208 ∧ j = 4) → HX.1 r j = h.1 r j := fun r j z1 z2 z3 z4 => by
    rw [eHX]
    simp (disch := omega) only [setI_no]
  have mo : ∀ K j : Nat, ¬ ((K = 235 ∨ K = 236 ∨ K = 237) ∧ j = mk) → ¬ ((K = 242 ∨ K = 239 ∨ K = 238) ∧ j = 8 * c + i) → ¬ ((K = 243 ∨ K = 244 ∨ K = 245 ∨ K = 251) ∧ j = c) → ¬ (K = 223 ∧ (j = 15 ∨ j = 16)) → HM.1 K j = hm.1 K j := fun K j z1 z2 z3 z4 => by
    rw [eHM]
    simp (disch := omega) only [setI_no]
    exact hb1 K j (by omega)
  have TM : TInv HM := by
    rw [eHM]
    refine (((((((((((((hbT.a 235 _ 0 39 (by decide +kernel) (by decide +kernel) (by rw [i32n (by omega)]; omega)).a 236 _ 0 1 (by decide +kernel) (by decide +kernel) (by decide)).full 237 _ _ (by decide +kernel) (by decide +kernel)).a 242 _ (-1) 79 (by decide +kernel) (by decide +kernel) (by rw [i32n (by omega)]; omega)).w (r := 223) (k := 16) (lo := 0) (hi := 80) (by decide +kernel) (by rw [i32n (by omega)]; omega)).a 239 _ 0 6 (by decide +kernel) (by decide +kernel) (by omega)).full 238 _ _ (by decide +kernel) (by decide +kernel)).a 243 _ 0 8 (by decide +kernel) (by decide +kernel) (by rw [i32n (by omega)]; omega)).a 244 _ (-1) 20 (by decide +kernel) (by decide +kernel) (by decide)).a 245 _ 0 1 (by decide +kernel) (by decide +kernel) (by decide)).a 251 _ 0 1 (by decide +kernel) (by decide +kernel) (by decide)).w (r := 223) (k := 15) (lo := 0) (hi := 600) (by decide +kernel) (by rw [i32n (by omega)]; omega)))
  have a16 : HM.1 223 16 = Int32.ofNat (mk + 1) := by rw [eHM]; simp (disch := omega) only [setI_at, setI_no]
  have em1 : (HM.1 223 16).toInt = (mk : Int) + 1 := by rw [a16, i32n (by omega)]; omega
  have MXX : KMX hm HM := by
    refine ⟨by rw [em1, em]; omega, fun j hj => ⟨mo _ _ (by omega) (by omega) (by omega) (by omega), mo _ _ (by omega) (by omega) (by omega) (by omega), mo _ _ (by omega) (by omega) (by omega) (by omega)⟩⟩
  have mmk : HM.1 235 mk = Int32.ofNat (8 * c + i) ∧ HM.1 236 mk = Int32.ofInt 1 ∧ HM.1 237 mk = Int32.ofNat st := by
    rw [eHM]
    refine ⟨?_, ?_, ?_⟩ <;> simp (disch := omega) only [setI_at, setI_no]
  have f69 : ∀ t : Nat, t < qt g → (hm.1 261 t).toInt ≤ 40 := fun t ht => (TI.rng hT 69 6 0 40 (by decide +kernel) (by decide) (by decide) (i := t) (by omega)).2
  refine ⟨⟨X.low G x2 (fun r j hr => xo r j (by omega) (by omega) (by omega) (by omega)), M.low m2 (fun K j hK => mo K j (by omega) (by omega) (by omega) (by omega)), ?_, ?_, TM⟩, fun t ht => ⟨?_, ?_⟩, fun o ho => ?_⟩
  · rw [eHM, setI_at]
  · have := MK.add (en := Int32.ofInt 1) (h' := HX) (hm' := HM) c5 i8 (by omega) (by omega) e0 K (by omega) (by omega) (Or.inr (by decide)) (by rw [eHX]; simp (disch := omega) only [setI_at, setI_no]) ⟨by rw [eHX]; simp (disch := omega) only [setI_at, setI_no], by rw [eHX]; simp (disch := omega) only [setI_at, setI_no], by rw [eHX]; simp (disch := omega) only [setI_at, setI_no], by rw [eHX]; simp (disch := omega) only [setI_at, setI_no]⟩ (fun j hj => xo _ _ (by omega) (by omega) (by omega) (by omega)) a16 mmk (fun K j h1 h2 h3 => mo K j (by omega) (by omega) (by omega) (by omega)) (b3 := st + 1) (Or.inr ⟨by decide, rfl⟩)
    rw [if_neg (by decide)] at this
    exact this
  · exact (RT t ht).1.fr (f69 t ht) (by omega) ⟨fun j => ⟨xo _ _ (by omega) (by omega) (by omega) (by omega), xo _ _ (by omega) (by omega) (by omega) (by omega), xo _ _ (by omega) (by omega) (by omega) (by omega), xo _ _ (by omega) (by omega) (by omega) (by omega)⟩, fun K j hK _ _ => mo _ _ (by omega) (by omega) (by omega) (by omega), fun j _ _ => mo _ _ (by omega) (by omega) (by omega) (by omega), fun K hK => mo _ _ (by omega) (by omega) (by omega) (by omega), fun j _ _ => mo _ _ (by omega) (by omega) (by omega) (by omega)⟩
  · exact (RT t ht).2.fr (fun j => xo _ _ (by omega) (by omega) (by omega) (by omega)) (fun j _ _ => mo _ _ (by omega) (by omega) (by omega) (by omega))
  · by_cases y : o = c
    · subst y
      obtain ⟨⟨k1, k2, k3⟩, k4, k5, k6, k7⟩ := CK
      refine ⟨i + 1, ⟨⟨?_, ?_, by omega⟩, fun j hj => ?_, fun j h1 h2 => ⟨?_, fun h3 => ?_, ?_⟩, fun z => ?_, fun j hj => ?_⟩, fun hi1 => Or.inr (Or.inl ⟨0, by have := (G.len ho hi1).1; omega, ⟨?_, ?_⟩, ?_, ?_, ?_, ?_, ?_, fun z m h4 hh => by cases hh⟩)⟩
      · rw [eHX]; simp (disch := omega) only [setI_at, setI_no]
      · rw [eHM]; simp (disch := omega) only [setI_at, setI_no]
      · obtain ⟨O, W⟩ := k4 j hj
        by_cases ji : j = i
        · subst ji
          have o15 : HX.1 (152 + 12 * o + j) 15 = how := by rw [eHX]; simp (disch := omega) only [setI_at, setI_no]
          have o16 : HX.1 (152 + 12 * o + j) 16 = ans := by rw [eHX]; simp (disch := omega) only [setI_at, setI_no]
          have o18 : HX.1 (152 + 12 * o + j) 18 = Int32.ofNat st := by rw [eHX]; simp (disch := omega) only [setI_at, setI_no]
          have p39 : HM.1 239 (8 * o + j) = how := by rw [eHM]; simp (disch := omega) only [setI_at, setI_no]
          have p38 : HM.1 238 (8 * o + j) = ans := by rw [eHM]; simp (disch := omega) only [setI_at, setI_no]
          have p42 : HM.1 242 (8 * o + j) = Int32.ofNat mk := by rw [eHM]; simp (disch := omega) only [setI_at, setI_no]
          have p41 : HM.1 241 (8 * o + j) = hm.1 241 (8 * o + j) := mo _ _ (by omega) (by omega) (by omega) (by omega)
          obtain ⟨-, -, o5, -⟩ := O
          refine ⟨⟨⟨o15.trans p39.symm, o16.trans p38.symm⟩, ?_, fun z => ?_, fun z => ?_, ?_⟩, ?_⟩
          · rw [o15, p41]
            exact ⟨fun z => by omega, fun z => absurd z b1.1⟩
          · rw [p41] at z ⊢
            obtain ⟨q1, q2, q3⟩ := o5 z
            exact ⟨q1, by omega, by rw [(MXX.2 _ (nn_lt q1 q2)).2.2, xo _ _ (by omega) (by omega) (by omega) (by omega)]; exact q3⟩
          · rw [p42, i32n (by omega), o32c (by omega), em1, o18, mmk.2.2, mmk.2.1]
            exact ⟨by omega, by omega, rfl, by decide⟩
          · rw [p42, p39, i32n (by omega)]
            exact ⟨fun _ => hhow.2, fun _ => by omega⟩
          · exact W.of (xo _ _ (by omega) (by omega) (by omega) (by omega)) (mo _ _ (by omega) (by omega) (by omega) (by omega))
        · exact ⟨O.fr (fun k hk => xo _ _ (by omega) (by omega) (by omega) (by omega)) (fun K hK => mo _ _ (by omega) (by omega) (by omega) (by omega)) MXX, W.of (xo _ _ (by omega) (by omega) (by omega) (by omega)) (mo _ _ (by omega) (by omega) (by omega) (by omega))⟩
      · rw [xo _ _ (by omega) (by omega) (by omega) (by omega)]; exact (k5 j (by omega) h2).1
      · have F := (k5 j (by omega) h2).2.1 (by omega)
        unfold FUT at F ⊢
        rw [x2, xo _ 9 (by omega) (by omega) (by omega) (by omega), xo _ 10 (by omega) (by omega) (by omega) (by omega)]
        exact F
      · rw [mo _ _ (by omega) (by omega) (by omega) (by omega)]; exact (k5 j (by omega) h2).2.2
      · rw [eHM]; simp (disch := omega) only [setI_at, setI_no]
      · by_cases ji : j = i
        · subst ji
          have p39 : HM.1 239 (8 * o + j) = how := by rw [eHM]; simp (disch := omega) only [setI_at, setI_no]
          have p38 : HM.1 238 (8 * o + j) = ans := by rw [eHM]; simp (disch := omega) only [setI_at, setI_no]
          have p42 : HM.1 242 (8 * o + j) = Int32.ofNat mk := by rw [eHM]; simp (disch := omega) only [setI_at, setI_no]
          have p41 : HM.1 241 (8 * o + j) = hm.1 241 (8 * o + j) := mo _ _ (by omega) (by omega) (by omega) (by omega)
          have p8 : HX.1 (152 + 12 * o + j) 8 = h.1 (152 + 12 * o + j) 8 := xo _ _ (by omega) (by omega) (by omega) (by omega)
          obtain ⟨q1, q2, q3⟩ := (k4 j hj).1.2.2.1 b1.1
          unfold HOWj
          rw [p39, p38, p41, p42, p8, i32n (by omega)]
          exact ⟨hha, hk5, (k7 j hj).2.2.1, fun _ => by omega⟩
        · unfold HOWj
          rw [mo 239 _ (by omega) (by omega) (by omega) (by omega), mo 238 _ (by omega) (by omega) (by omega) (by omega), mo 241 _ (by omega) (by omega) (by omega) (by omega), mo 242 _ (by omega) (by omega) (by omega) (by omega), xo (152 + 12 * o + j) 8 (by omega) (by omega) (by omega) (by omega)]
          exact k7 j hj
      · rw [xo _ _ (by omega) (by omega) (by omega) (by omega)]; exact ((k5 (i + 1) (by omega) hi1).2.1 (by omega)).2.2
      · rw [eHM]; simp (disch := omega) only [setI_at, setI_no]
      · rw [xo _ _ (by omega) (by omega) (by omega) (by omega)]; exact ((k5 (i + 1) (by omega) hi1).2.1 (by omega)).2.1
      · rw [eHM]; simp (disch := omega) only [setI_at, setI_no]; rfl
      · rw [x2]; exact ((k5 (i + 1) (by omega) hi1).2.1 (by omega)).1
      · rw [eHM]; simp (disch := omega) only [setI_at, setI_no]
      · have r1 : ∀ k op : Int, ¬ (rdP k op ≤ 0) := fun k op => by unfold rdP; (repeat' split) <;> omega
        exact ⟨fun _ z => absurd z (r1 _ _), fun _ z => absurd z (r1 _ _), fun _ z => absurd z (r1 _ _), fun _ z => absurd z (r1 _ _), fun _ z => absurd z (r1 _ _), fun _ z => absurd z (r1 _ _)⟩
    · have o5 := G.c5 ho
      exact (RO o ho y).fr ⟨fun r j h1 h2 => ⟨xo _ _ (by omega) (by omega) (by omega) (by omega), by rw [x2]⟩, fun K h1 h2 => mo _ _ (by omega) (by omega) (by omega) (by omega), fun K j hK h1 h2 => mo _ _ (by omega) (by omega) (by omega) (by omega), fun K j h1 h2 h3 h4 => mo _ _ (by omega) (by omega) (by omega) (by omega), fun j hj => by rw [mo _ _ (by omega) (by omega) (by omega) (by omega)]; exact hj⟩ MXX (G.m8 ho)

/-- the begin of an act: both sides -/
theorem RRM.begin {g h hm : Hp} {st c i mk : Nat} (G : GS g) (R : RR g h hm st) (hc : c < qc g) (hi : i < qm g c) (CK : CKi g h hm c i) (U : CU g h hm c i) (e41 : (hm.1 241 (8 * c + i)).toInt = -1) (e0 : hm.1 223 16 = Int32.ofNat mk) (hmk : mk < 79) (st9 : st < 600) : RRM g (fl_setI (fl_setI (fl_setI (fl_setI (fl_setI (fl_setI (fl_setI h (152 + 12 * c + i) 15 (Int32.ofInt 5)) (152 + 12 * c + i) 17 (Int32.ofNat st)) 209 (4 * mk) (Int32.ofNat c)) 209 (4 * mk + 1) (Int32.ofNat i)) 209 (4 * mk + 2) (Int32.ofInt 0)) 209 (4 * mk + 3) (Int32.ofNat st)) 208 4 (Int32.ofNat (mk + 1))) (fl_setI (fl_setI (fl_setI (fl_setI (fl_setI (fl_setI hm 235 mk (Int32.ofNat (8 * c + i))) 236 mk (Int32.ofInt 0)) 237 mk (Int32.ofNat st)) 241 (8 * c + i) (Int32.ofNat mk)) 223 16 (Int32.ofNat (mk + 1))) 239 (8 * c + i) (Int32.ofInt 5)) st c i st (CU g (fl_setI (fl_setI (fl_setI (fl_setI (fl_setI (fl_setI (fl_setI h (152 + 12 * c + i) 15 (Int32.ofInt 5)) (152 + 12 * c + i) 17 (Int32.ofNat st)) 209 (4 * mk) (Int32.ofNat c)) 209 (4 * mk + 1) (Int32.ofNat i)) 209 (4 * mk + 2) (Int32.ofInt 0)) 209 (4 * mk + 3) (Int32.ofNat st)) 208 4 (Int32.ofNat (mk + 1))) (fl_setI (fl_setI (fl_setI (fl_setI (fl_setI (fl_setI hm 235 mk (Int32.ofNat (8 * c + i))) 236 mk (Int32.ofInt 0)) 237 mk (Int32.ofNat st)) 241 (8 * c + i) (Int32.ofNat mk)) 223 16 (Int32.ofNat (mk + 1))) 239 (8 * c + i) (Int32.ofInt 5)) c i) := by
  obtain ⟨⟨X, M, S15, K, hT⟩, RT, RO⟩ := id R
  have c5 := G.c5 hc
  have i8 := G.i8 hc hi
  have m8 := G.m8 hc
  have t6 := G.1.1
  have q5 := G.1.2.2.1
  obtain ⟨HX, eHX⟩ : ∃ z, z = fl_setI (fl_setI (fl_setI (fl_setI (fl_setI (fl_setI (fl_setI h (152 + 12 * c + i) 15 (Int32.ofInt 5)) (152 + 12 * c + i) 17 (Int32.ofNat st)) 209 (4 * mk) (Int32.ofNat c)) 209 (4 * mk + 1) (Int32.ofNat i)) 209 (4 * mk + 2) (Int32.ofInt 0)) 209 (4 * mk + 3) (Int32.ofNat st)) 208 4 (Int32.ofNat (mk + 1)) := ⟨_, rfl⟩
  obtain ⟨HM, eHM⟩ : ∃ z, z = fl_setI (fl_setI (fl_setI (fl_setI (fl_setI (fl_setI hm 235 mk (Int32.ofNat (8 * c + i))) 236 mk (Int32.ofInt 0)) 237 mk (Int32.ofNat st)) 241 (8 * c + i) (Int32.ofNat mk)) 223 16 (Int32.ofNat (mk + 1))) 239 (8 * c + i) (Int32.ofInt 5) := ⟨_, rfl⟩
  rw [← eHX, ← eHM]
  have em : (hm.1 223 16).toInt = mk := by rw [e0, i32n (by omega)]
  have x2 : HX.2 = h.2 := by rw [eHX]; rfl
  have m2 : HM.2 = hm.2 := by rw [eHM]; rfl
  have xo : ∀ r j : Nat, ¬ (r = (152 + 12 * c + i) ∧ (j = 15 ∨ j = 17)) → ¬ (r = 209 ∧ 4 * mk ≤ j ∧ j ≤ 4 * mk + 3) → ¬ (r = 208 ∧ j = 4) → HX.1 r j = h.1 r j := fun r j z1 z3 z4 => by
    rw [eHX]
    simp (disch := omega) only [setI_no]
  have mo : ∀ K j : Nat, ¬ ((K = 235 ∨ K = 236 ∨ K = 237) ∧ j = mk) → ¬ ((K = 241 ∨ K = 239) ∧ j = 8 * c + i) → ¬ (K = 223 ∧ j = 16) → HM.1 K j = hm.1 K j := fun K j z1 z2 z4 => by
    rw [eHM]
    simp (disch := omega) only [setI_no]
  have TM : TInv HM := by
    rw [eHM]
    exact ((((((hT.a 235 _ 0 39 (by decide +kernel) (by decide +kernel) (by rw [i32n (by omega)]; omega)).a 236 _ 0 1 (by decide +kernel) (by decide +kernel) (by decide)).full 237 _ _ (by decide +kernel) (by decide +kernel)).a 241 _ (-1) 79 (by decide +kernel) (by decide +kernel) (by rw [i32n (by omega)]; omega)).w (r := 223) (k := 16) (lo := 0) (hi := 80) (by decide +kernel) (by rw [i32n (by omega)]; omega)).a 239 _ 0 6 (by decide +kernel) (by decide +kernel) (by decide))
  have a16 : HM.1 223 16 = Int32.ofNat (mk + 1) := by rw [eHM]; simp (disch := omega) only [setI_at, setI_no]
  have em1 : (HM.1 223 16).toInt = (mk : Int) + 1 := by rw [a16, i32n (by omega)]; omega
  have MXX : KMX hm HM := by
    refine ⟨by rw [em1, em]; omega, fun j hj => ⟨mo _ _ (by omega) (by omega) (by omega), mo _ _ (by omega) (by omega) (by omega), mo _ _ (by omega) (by omega) (by omega)⟩⟩
  have mmk : HM.1 235 mk = Int32.ofNat (8 * c + i) ∧ HM.1 236 mk = Int32.ofInt 0 ∧ HM.1 237 mk = Int32.ofNat st := by
    rw [eHM]
    refine ⟨?_, ?_, ?_⟩ <;> simp (disch := omega) only [setI_at, setI_no]
  have f69 : ∀ t : Nat, t < qt g → (hm.1 261 t).toInt ≤ 40 := fun t ht => (TI.rng hT 69 6 0 40 (by decide +kernel) (by decide) (by decide) (i := t) (by omega)).2
  have p41 : HM.1 241 (8 * c + i) = Int32.ofNat mk := by rw [eHM]; simp (disch := omega) only [setI_at, setI_no]
  have p42 : HM.1 242 (8 * c + i) = hm.1 242 (8 * c + i) := mo _ _ (by omega) (by omega) (by omega)
  have o42 : (hm.1 242 (8 * c + i)).toInt = -1 := (CK.2.2.1 i (Nat.le_refl _) hi).2.2
  refine ⟨⟨X.low G x2 (fun r j hr => xo r j (by omega) (by omega) (by omega)), M.low m2 (fun K j hK => mo K j (by omega) (by omega) (by omega)), ?_, ?_, TM⟩, fun t ht => ⟨?_, ?_⟩, fun o ho hne => ?_, hc, hi, ?_, ?_, ?_, ?_⟩
  · rw [mo _ _ (by omega) (by omega) (by omega)]; exact S15
  · have := MK.add (en := Int32.ofInt 0) (h' := HX) (hm' := HM) c5 i8 (by omega) (by omega) e0 K (by omega) (by omega) (Or.inl (by omega)) (by rw [eHX]; simp (disch := omega) only [setI_at, setI_no]) ⟨by rw [eHX]; simp (disch := omega) only [setI_at, setI_no], by rw [eHX]; simp (disch := omega) only [setI_at, setI_no], by rw [eHX]; simp (disch := omega) only [setI_at, setI_no], by rw [eHX]; simp (disch := omega) only [setI_at, setI_no]⟩ (fun j hj => xo _ _ (by omega) (by omega) (by omega)) a16 mmk (fun K j h1 h2 h3 => mo K j (by omega) (by omega) (by omega)) (b3 := st) (Or.inl rfl)
    rw [if_pos (by decide)] at this
    exact this
  · exact (RT t ht).1.fr (f69 t ht) (Int.le_refl _) ⟨fun j => ⟨xo _ _ (by omega) (by omega) (by omega), xo _ _ (by omega) (by omega) (by omega), xo _ _ (by omega) (by omega) (by omega), xo _ _ (by omega) (by omega) (by omega)⟩, fun K j hK _ _ => mo _ _ (by omega) (by omega) (by omega), fun j _ _ => mo _ _ (by omega) (by omega) (by omega), fun K hK => mo _ _ (by omega) (by omega) (by omega), fun j _ _ => mo _ _ (by omega) (by omega) (by omega)⟩
  · exact (RT t ht).2.fr (fun j => xo _ _ (by omega) (by omega) (by omega)) (fun j _ _ => mo _ _ (by omega) (by omega) (by omega))
  · have o5 := G.c5 ho
    exact (RO o ho).fr ⟨fun r j h1 h2 => ⟨xo _ _ (by omega) (by omega) (by omega), by rw [x2]⟩, fun K h1 h2 => mo _ _ (by omega) (by omega) (by omega), fun K j hK h1 h2 => mo _ _ (by omega) (by omega) (by omega), fun K j h1 h2 h3 h4 => mo _ _ (by omega) (by omega) (by omega), fun j hj => by rw [mo _ _ (by omega) (by omega) (by omega)]; exact hj⟩ MXX (G.m8 ho)
  · obtain ⟨⟨k1, k2, k3⟩, k4, k5, k6, k7⟩ := CK
    refine ⟨⟨?_, ?_, k3⟩, fun j hj => ?_, fun j h1 h2 => ⟨?_, fun h3 => ?_, ?_⟩, fun z => by omega, fun j hj => ?_⟩
    · rw [xo _ _ (by omega) (by omega) (by omega)]; exact k1
    · rw [mo _ _ (by omega) (by omega) (by omega)]; exact k2
    · obtain ⟨O, W⟩ := k4 j hj
      by_cases ji : j = i
      · subst ji
        have o15 : HX.1 (152 + 12 * c + j) 15 = Int32.ofInt 5 := by rw [eHX]; simp (disch := omega) only [setI_at, setI_no]
        have o17 : HX.1 (152 + 12 * c + j) 17 = Int32.ofNat st := by rw [eHX]; simp (disch := omega) only [setI_at, setI_no]
        have p39 : HM.1 239 (8 * c + j) = Int32.ofInt 5 := by rw [eHM]; simp (disch := omega) only [setI_at, setI_no]
        obtain ⟨⟨-, o2⟩, -, -, -, -⟩ := O
        refine ⟨⟨⟨o15.trans p39.symm, ?_⟩, ?_, fun z => ?_, fun z => ?_, ?_⟩, ?_⟩
        · rw [xo _ _ (by omega) (by omega) (by omega), mo _ _ (by omega) (by omega) (by omega)]; exact o2
        · rw [o15, p41, i32n (by omega)]
          exact ⟨fun z => absurd z (by decide), fun z => by omega⟩
        · rw [p41, i32n (by omega), o32c (by omega), em1, o17, mmk.2.2]
          exact ⟨by omega, by omega, rfl⟩
        · rw [p42] at z
          exact absurd o42 z
        · rw [p42, p39]
          exact ⟨fun z => absurd o42 z, fun z => absurd z (by decide)⟩
        · exact W.of (xo _ _ (by omega) (by omega) (by omega)) (mo _ _ (by omega) (by omega) (by omega))
      · exact ⟨O.fr (fun k hk => xo _ _ (by omega) (by omega) (by omega)) (fun K hK => mo _ _ (by omega) (by omega) (by omega)) MXX, W.of (xo _ _ (by omega) (by omega) (by omega)) (mo _ _ (by omega) (by omega) (by omega))⟩
    · rw [xo _ _ (by omega) (by omega) (by omega)]; exact (k5 j h1 h2).1
    · have F := (k5 j h1 h2).2.1 h3
      unfold FUT at F ⊢
      rw [x2, xo _ 9 (by omega) (by omega) (by omega), xo _ 10 (by omega) (by omega) (by omega)]
      exact F
    · rw [mo _ _ (by omega) (by omega) (by omega)]; exact (k5 j h1 h2).2.2
    · by_cases ji : j = i
      · subst ji
        have p39 : HM.1 239 (8 * c + j) = Int32.ofInt 5 := by rw [eHM]; simp (disch := omega) only [setI_at, setI_no]
        have p38 : HM.1 238 (8 * c + j) = hm.1 238 (8 * c + j) := mo _ _ (by omega) (by omega) (by omega)
        have O := (k4 j hj).1
        have e6 := O.2.1.mpr e41
        rw [O.1.1] at e6
        have p8 : HX.1 (152 + 12 * c + j) 8 = h.1 (152 + 12 * c + j) 8 := xo _ _ (by omega) (by omega) (by omega)
        unfold HOWj
        rw [p39, p38, p42, p8]
        exact ⟨fun _ => (k7 j hj).1 (by omega), fun _ => by decide, (k7 j hj).2.2.1, fun z => absurd o42 z⟩
      · unfold HOWj
        rw [mo 239 _ (by omega) (by omega) (by omega), mo 238 _ (by omega) (by omega) (by omega), mo 241 _ (by omega) (by omega) (by omega), mo 242 _ (by omega) (by omega) (by omega), xo (152 + 12 * c + j) 8 (by omega) (by omega) (by omega)]
        exact k7 j hj
  · rw [p41, i32n (by omega), em1]; exact ⟨by omega, by omega⟩
  · rw [p42]; exact o42
  · have xA : ∀ k : Nat, k ≠ 15 → k ≠ 17 → HX.1 (152 + 12 * c + i) k = h.1 (152 + 12 * c + i) k := fun k h1 h2 => xo _ _ (by omega) (by omega) (by omega)
    have mA : ∀ K : Nat, 244 ≤ K → K ≤ 251 → HM.1 K c = hm.1 K c := fun K h1 h2 => mo _ _ (by omega) (by omega) (by omega)
    have hl : ∀ {p : Nat}, HLD g hm c i p → HLD g HM c i p := fun O z m h4 hh => by rw [mo _ _ (by omega) (by omega) (by omega)]; exact O z m h4 hh
    rcases U with W | ⟨p, hp, W⟩ | W
    · refine Or.inl ?_
      unfold CUw at W ⊢
      rw [xA 9 (by decide) (by decide), xA 10 (by decide) (by decide), xA 11 (by decide) (by decide), mA 244 (by decide) (by decide), mA 245 (by decide) (by decide), mA 246 (by decide) (by decide), mA 251 (by decide) (by decide), x2]
      exact W
    · refine Or.inr (Or.inl ⟨p, hp, ?_⟩)
      obtain ⟨w1, w2, w3, w4, w5, w6, w7⟩ := W
      refine ⟨?_, ?_, ?_, by rw [x2]; exact w4, ?_, w6.fr2 (xA _ (by decide) (by decide)) (xA _ (by decide) (by decide)) (xo _ _ (by omega) (by omega) (by omega)) (fun j => xo _ _ (by omega) (by omega) (by omega)) (fun K h1 h2 => mA K (by omega) (by omega)) (fun K j hK => mo _ _ (by omega) (by omega) (by omega)), hl w7⟩
      · rw [xA 10 (by decide) (by decide), mA 245 (by decide) (by decide)]; exact w1
      · rw [xA 9 (by decide) (by decide)]; exact w2
      · rw [mA 244 (by decide) (by decide)]; exact w3
      · rw [mA 251 (by decide) (by decide)]; exact w5
    · refine Or.inr (Or.inr ?_)
      obtain ⟨w1, w2, w3, w4, w5, w6, w7, w8⟩ := W
      refine ⟨?_, ?_, ?_, by rw [x2]; exact w4, ?_, w6, ?_, hl w8⟩
      · rw [xA 10 (by decide) (by decide), mA 245 (by decide) (by decide)]; exact w1
      · rw [xA 9 (by decide) (by decide)]; exact w2
      · rw [mA 244 (by decide) (by decide)]; exact w3
      · rw [mA 251 (by decide) (by decide)]; exact w5
      · rw [xA 13 (by decide) (by decide), xA 14 (by decide) (by decide), mA 248 (by decide) (by decide)]; exact w7
