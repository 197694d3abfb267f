
set_option maxRecDepth 20000
/-! STEPS ON BOTH SIDES: WRITE -/
theorem tb_add (x y : Int32) : (x + y).toBitVec.toNat = (x.toBitVec.toNat + y.toBitVec.toNat) % 4294967296 := BitVec.toNat_add _ _
theorem tb_sub (x y : Int32) : (x - y).toBitVec.toNat = (4294967296 - y.toBitVec.toNat + x.toBitVec.toNat) % 4294967296 := BitVec.toNat_sub _ _
theorem tb_ofN {n : Nat} (h : n < 4294967296) : (Int32.ofNat n).toBitVec.toNat = n := by
  show (BitVec.ofNat 32 n).toNat = n
  rw [BitVec.toNat_ofNat]
  omega
theorem tb_63 (x : Int32) : (x &&& Int32.ofInt 63).toBitVec.toNat = x.toBitVec.toNat % 64 := by
  show (x.toBitVec &&& 63#32).toNat = _
  rw [BitVec.toNat_and]
  exact Nat.and_two_pow_sub_one_eq_mod _ 6
theorem ix63 (x : Int32) : (x &&& Int32.ofInt 63).toNatClampNeg = x.toBitVec.toNat % 64 := by
  have h := tb_63 x
  have e : (x &&& Int32.ofInt 63).toInt = (((x &&& Int32.ofInt 63).toBitVec.toNat : Nat) : Int) := by
    show (x &&& Int32.ofInt 63).toBitVec.toInt = _
    rw [BitVec.toInt_eq_toNat_of_lt (by omega)]
  show (x &&& Int32.ofInt 63).toInt.toNat = _
  rw [e]
  omega
theorem tb_1 : (Int32.ofInt 1).toBitVec.toNat = 1 := by decide
theorem rg_eq {s : Int32} {j : Nat} (hj : j < 1000) : rg s j = (s.toBitVec.toNat + j) % 64 := by
  unfold rg
  rw [ix63, tb_add, tb_ofN (by omega)]
  omega
/-- at the end of the ring -/
theorem rg_len {s : Int32} {n : Nat} : ((s + Int32.ofNat n) &&& Int32.ofInt 63).toNatClampNeg = rg s n := rfl
theorem rg_last {s : Int32} {n : Nat} (h1 : 1 ≤ n) (h2 : n < 1000) : (((s + Int32.ofNat n) - Int32.ofInt 1) &&& Int32.ofInt 63).toNatClampNeg = rg s (n - 1) := by
  rw [rg_eq (by omega), ix63, tb_sub, tb_add, tb_ofN (by omega), tb_1]
  omega
theorem rg_up {s : Int32} {j : Nat} (hj : j < 900) : rg ((s + Int32.ofInt 1) &&& Int32.ofInt 63) j = rg s (j + 1) := by
  rw [rg_eq (by omega), rg_eq (by omega), tb_63, tb_add, tb_1]
  omega
theorem rg_dn {s : Int32} {j : Nat} (hj : j < 900) : rg ((s - Int32.ofInt 1) &&& Int32.ofInt 63) (j + 1) = rg s j := by
  have := s.toBitVec.isLt
  rw [rg_eq (by omega), rg_eq (by omega), tb_63, tb_sub, tb_1]
  omega
theorem rg_dn0 {s : Int32} : (((s - Int32.ofInt 1) &&& Int32.ofInt 63) &&& Int32.ofInt 63).toNatClampNeg = rg ((s - Int32.ofInt 1) &&& Int32.ofInt 63) 0 := (rg0 _).symm
theorem rg_ne {s : Int32} {j k : Nat} (hj : j < 64) (hk : k < 64) (h : j ≠ k) : rg s j ≠ rg s k := by
  rw [rg_eq (by omega), rg_eq (by omega)]
  omega
theorem rg_64 {s : Int32} {j : Nat} (hj : j < 1000) : rg s j < 64 := by
  rw [rg_eq hj]
  omega
theorem RRM.place {g h hm : Hp} {st c i pc p : Nat} {q b : Int} (G : GS g) (pc' : Nat) (R : RRM g h hm st c i b (CUn g h hm c i pc q p)) : RRM g (fl_setI h (152 + 12 * c + i) 9 (Int32.ofNat pc')) hm st c i b (CUn g (fl_setI h (152 + 12 * c + i) 9 (Int32.ofNat pc')) hm c i pc' q p) := by
  obtain ⟨⟨X, M, S15, K, hT⟩, RT, RO, hc, hi, CK, b1, b2, ⟨u1, u2⟩, u3, u4, u5, u6, u7, u8⟩ := id R
  have c5 := G.c5 hc
  have i8 := G.i8 hc hi
  have T6 := G.T6 hc hi
  refine RRM.cu G (Int.le_refl _) R ((KFX.refl _ _ _ _).set _ _ _ (by omega)) (KFM.refl _ _ _ _) hT ?_ ?_ setI_at rfl rfl rfl rfl rfl (fun j => ?_) (fun j => rfl) ((RT _ (G.T hc hi)).1.fr (TI.rng hT 69 6 0 40 (by decide +kernel) (by decide) (by decide) T6).2 (Int.le_refl _) ⟨fun j => ⟨?_, ?_, ?_, ?_⟩, fun K j hK h1 h2 => rfl, fun j h1 h2 => rfl, fun K hK => rfl, fun j h1 h2 => rfl⟩) (u7.fr2 ?_ ?_ ?_ (fun j => ?_) (fun K h1 h2 => rfl) (fun K j hK => rfl)) (fun z => z)
  all_goals simp (disch := omega) only [setI_at, setI_no]
/-- behind the write: waking, the next place -/
theorem RRM.wr {g h hm : Hp} {st c i p d : Nat} {r : Option Value × Hp × Nat} (G : GS g) (R : RRM g h hm st c i (st + 1) (CUn g h hm c i p p (p + 1))) (e3 : ∃ a0 : Option Value, (a0 = none ∨ ∃ o0, a0 = some (.int o0)) ∧ ∃ cc x op a : Int32, Ev d 169 (452, [some (.ref 223), some (.int cc), some (.int x), some (.int (Int32.ofNat (qT g c i))), some (.int op), some (.int a), a0], [], hm, fl_tot) r) : r = (none, zwH hm (Int32.ofNat (qT g c i)) (qc g), fl_tot) ∧ RRM g (fl_setI (wkH h (Int32.ofNat (qT g c i)) (qc g)) (152 + 12 * c + i) 9 (Int32.ofNat (p + 1))) (zwH hm (Int32.ofNat (qT g c i)) (qc g)) st c i (st + 1) (CUn g (fl_setI (wkH h (Int32.ofNat (qT g c i)) (qc g)) (152 + 12 * c + i) 9 (Int32.ofNat (p + 1))) (zwH hm (Int32.ofNat (qT g c i)) (qc g)) c i (p + 1) p (p + 1)) := by
  refine ⟨?_, (R.wake G rfl).place G (p + 1)⟩
  have hn : (hm.1 223 4).toInt = qc g := by rw [R.1.2.1.2.2.1]; exact G.1.2.2.2
  obtain ⟨a0, h0, cc, x, op, a, e3⟩ := e3
  rcases h0 with rfl | ⟨o0, rfl⟩
  · exact z_wake R.1.2.1.1 hn G.1.2.2.1 e3
  · exact z_wake2 R.1.2.1.1 hn G.1.2.2.1 e3

theorem i32_sub0 (x : Int32) : x - Int32.ofInt 0 = x := Int32.sub_zero x
theorem e61 {x : Int32} {n : Nat} (h : x.toInt = n) (h2 : n < 1000) : x = Int32.ofNat n := Int32.toInt_inj.mp (by rw [h, i32n (by omega)])
theorem osub {n : Nat} (h1 : 1 ≤ n) (h2 : n < 1000) : Int32.ofNat n - Int32.ofInt 1 = Int32.ofNat (n - 1) := by
  apply Int32.toInt_inj.mp
  rw [subI1 (by rw [i32n (by omega)]; omega), i32n (by omega), i32n (by omega)]
  omega
theorem TRq.up {h hm : Hp} {t : Nat} {b b' : Int} (hb : b ≤ b') (Q : TRq h hm t b) : TRq h hm t b' := ⟨Q.1, Q.2.1, ⟨Q.2.2.1.1, Int.le_trans Q.2.2.1.2 hb⟩, Q.2.2.2⟩
theorem TRq.putLast {h hm : Hp} {t n : Nat} {b : Int} (v : Int32) (Q : TRq h hm t b) (em : (hm.1 261 t).toInt = n) (h39 : n ≤ 45) : TRq (fl_setI (fl_setI h (6 + 24 * t) ((h.1 (5 + 24 * t) 2 + h.1 (5 + 24 * t) 3) &&& Int32.ofInt 63).toNatClampNeg v) (5 + 24 * t) 3 (h.1 (5 + 24 * t) 3 + Int32.ofInt 1)) (fl_setI (fl_setI hm 260 (48 * t + n) v) 261 t (hm.1 261 t + Int32.ofInt 1)) t b := by
  obtain ⟨q1, q2, q3, q4⟩ := Q
  have e := e61 em (by omega)
  rw [e] at q1
  rw [e, q1, rg_len, o32 (by omega)]
  refine ⟨?_, fun j hj => ?_, ?_, ?_⟩
  · rw [setI_at, setI_at]
  · rw [setI_at, i32n (by omega)] at hj
    have e2 : (fl_setI (fl_setI h (6 + 24 * t) (rg (h.1 (5 + 24 * t) 2) n) v) (5 + 24 * t) 3 (Int32.ofNat (n + 1))).1 (5 + 24 * t) 2 = h.1 (5 + 24 * t) 2 := by rw [setI_no (by omega), setI_no (by omega)]
    rw [e2, setI_no (by omega), setI_no (h := fl_setI hm 260 (48 * t + n) v) (by omega)]
    by_cases y : j = n
    · rw [y, setI_at, setI_at]
    · rw [setI_no (fun z => rg_ne (by omega) (by omega) y z.2), setI_no (by omega)]
      exact q2 j (by omega)
  · rw [setI_no (by omega), setI_no (by omega)]
    exact q3
  · rw [setI_no (by omega), setI_no (by omega), setI_no (by omega), setI_no (by omega)]
    exact q4
theorem TRq.takeFirst {h hm : Hp} {t n : Nat} {b : Int} (t6 : t < 6) (Q : TRq h hm t b) (em : (hm.1 261 t).toInt = n) (h1 : 1 ≤ n) (h40 : n ≤ 45) : TRq (fl_setI (fl_setI h (5 + 24 * t) 2 ((h.1 (5 + 24 * t) 2 + Int32.ofInt 1) &&& Int32.ofInt 63)) (5 + 24 * t) 3 (h.1 (5 + 24 * t) 3 - Int32.ofInt 1)) (fl_setI (sfH hm (Int32.ofNat t) (n - 1)) 261 t (hm.1 261 t - Int32.ofInt 1)) t b := by
  obtain ⟨q1, q2, q3, q4⟩ := Q
  have e := e61 em (by omega)
  rw [e] at q1
  have tn : (Int32.ofNat t).toNatClampNeg = t := o32c (by omega)
  have ti : (Int32.ofNat t).toInt = t := i32n (by omega)
  rw [e, q1, osub h1 (by omega)]
  refine ⟨?_, fun j hj => ?_, ?_, ?_⟩
  · rw [setI_at, setI_at]
  · rw [setI_at, i32n (by omega)] at hj
    have e2 : (fl_setI (fl_setI h (5 + 24 * t) 2 ((h.1 (5 + 24 * t) 2 + Int32.ofInt 1) &&& Int32.ofInt 63)) (5 + 24 * t) 3 (Int32.ofNat (n - 1))).1 (5 + 24 * t) 2 = (h.1 (5 + 24 * t) 2 + Int32.ofInt 1) &&& Int32.ofInt 63 := by rw [setI_no (by omega), setI_at]
    rw [e2, setI_no (by omega), setI_no (by omega), setI_no (by omega), rg_up (by omega), sfH_row (by omega) (by omega) _ (by omega), tn, if_pos (by omega)]
    exact q2 (j + 1) (by omega)
  · rw [setI_no (by omega), setI_no (by omega)]
    exact q3
  · rw [setI_no (by omega), setI_no (by omega), setI_no (by omega), sfH_out (by decide)]
    exact q4
theorem TRq.putFirst {h hm : Hp} {t n : Nat} {b : Int} (t6 : t < 6) (v : Int32) (Q : TRq h hm t b) (em : (hm.1 261 t).toInt = n) (h40 : n ≤ 45) : TRq (fl_setI (fl_setI (fl_setI h (5 + 24 * t) 2 ((h.1 (5 + 24 * t) 2 - Int32.ofInt 1) &&& Int32.ofInt 63)) (5 + 24 * t) 3 (h.1 (5 + 24 * t) 3 + Int32.ofInt 1)) (6 + 24 * t) (((h.1 (5 + 24 * t) 2 - Int32.ofInt 1) &&& Int32.ofInt 63) &&& Int32.ofInt 63).toNatClampNeg v) (fl_setI (fl_setI (pfH hm (Int32.ofNat t) n n) 260 (48 * t) v) 261 t (hm.1 261 t + Int32.ofInt 1)) t b := by
  obtain ⟨q1, q2, q3, q4⟩ := Q
  have e := e61 em (by omega)
  rw [e] at q1
  have tn : (Int32.ofNat t).toNatClampNeg = t := o32c (by omega)
  have ti : (Int32.ofNat t).toInt = t := i32n (by omega)
  rw [e, q1, o32 (by omega), rg_dn0]
  refine ⟨?_, fun j hj => ?_, ?_, ?_⟩
  · rw [setI_no (by omega), setI_at, setI_at]
  · rw [setI_at, i32n (by omega)] at hj
    have e2 : (fl_setI (fl_setI (fl_setI h (5 + 24 * t) 2 ((h.1 (5 + 24 * t) 2 - Int32.ofInt 1) &&& Int32.ofInt 63)) (5 + 24 * t) 3 (Int32.ofNat (n + 1))) (6 + 24 * t) (rg ((h.1 (5 + 24 * t) 2 - Int32.ofInt 1) &&& Int32.ofInt 63) 0) v).1 (5 + 24 * t) 2 = (h.1 (5 + 24 * t) 2 - Int32.ofInt 1) &&& Int32.ofInt 63 := by rw [setI_no (by omega), setI_no (by omega), setI_at]
    rw [e2, setI_no (h := fl_setI (pfH hm (Int32.ofNat t) n n) 260 (48 * t) v) (by omega)]
    by_cases y : j = 0
    · rw [y, setI_at, show 48 * t + 0 = 48 * t from rfl, setI_at]
    · obtain ⟨k, rfl⟩ : ∃ k, j = k + 1 := ⟨j - 1, by omega⟩
      rw [setI_no (fun z => rg_ne (by omega) (by omega) (by omega) z.2), setI_no (by omega), setI_no (by omega), setI_no (by omega), rg_dn (by omega), pfH_row (by omega) (by omega) (by omega) _ (Nat.le_refl _), tn, if_pos (by omega), show 48 * t + (k + 1) - 1 = 48 * t + k by omega]
      exact q2 k (by omega)
  · rw [setI_no (by omega), setI_no (by omega), setI_no (by omega)]
    exact q3
  · rw [setI_no (by omega), setI_no (by omega), setI_no (by omega), setI_no (by omega), setI_no (by omega), pfH_out (by decide)]
    exact q4
theorem TRq.takeLast {h hm : Hp} {t n : Nat} {b : Int} (Q : TRq h hm t b) (em : (hm.1 261 t).toInt = n) (h1 : 1 ≤ n) (h40 : n ≤ 45) : TRq (fl_setI h (5 + 24 * t) 3 (h.1 (5 + 24 * t) 3 - Int32.ofInt 1)) (fl_setI hm 261 t (hm.1 261 t - Int32.ofInt 1)) t b := by
  obtain ⟨q1, q2, q3, q4⟩ := Q
  have e := e61 em (by omega)
  rw [e] at q1
  rw [e, q1, osub h1 (by omega)]
  refine ⟨?_, fun j hj => ?_, ?_, ?_⟩
  · rw [setI_at, setI_at]
  · rw [setI_at, i32n (by omega)] at hj
    rw [setI_no (by omega), setI_no (by omega), setI_no (by omega)]
    exact q2 j (by omega)
  · rw [setI_no (by omega)]
    exact q3
  · rw [setI_no (by omega), setI_no (by omega)]
    exact q4
theorem TRq.close {h hm : Hp} {t : Nat} {b : Int} (hb : b < 1000) (Q : TRq h hm t b) : TRq (fl_setI h (5 + 24 * t) 4 (h.1 (5 + 24 * t) 4 + Int32.ofInt 1)) (fl_setI hm 262 t (Int32.ofInt 1)) t (b + 1) := by
  obtain ⟨q1, q2, q3, q4⟩ := Q
  have e : (h.1 (5 + 24 * t) 4 + Int32.ofInt 1).toInt = (h.1 (5 + 24 * t) 4).toInt + 1 := add1 (y := 2000) (by omega) (by omega)
  refine ⟨?_, fun j hj => ?_, ?_, ?_⟩
  · rw [setI_no (by omega), setI_no (by omega)]
    exact q1
  · rw [setI_no (by omega)] at hj
    rw [setI_no (by omega), setI_no (by omega), setI_no (by omega)]
    exact q2 j hj
  · rw [setI_at, e]
    omega
  · rw [setI_at, setI_at, e, i32_1]
    omega
theorem sfH_T {h : Hp} {t : Int32} (hT : TInv h) : ∀ n, TInv (sfH h t n)
  | 0 => hT
  | n + 1 => (sfH_T hT n).full 260 _ _ (by decide +kernel) (by decide +kernel)
theorem pfH_T {h : Hp} {t : Int32} {m : Nat} (hT : TInv h) : ∀ n, TInv (pfH h t m n)
  | 0 => hT
  | n + 1 => (pfH_T hT n).full 260 _ _ (by decide +kernel) (by decide +kernel)
theorem KFM.sfH {c i t n : Nat} {h h' : Hp} (x : KFM c i t h h') (t6 : t < 6) (hn : n ≤ 45) : KFM c i t h (sfH h' (Int32.ofNat t) n) := by
  have tn : (Int32.ofNat t).toNatClampNeg = t := o32c (by omega)
  have ti : (Int32.ofNat t).toInt = t := i32n (by omega)
  refine x.trans ⟨fun K j z0 z1 z2 z3 z4 z5 z6 z7 z8 z9 => ?_, sfH_2 n⟩
  by_cases y : K = 260
  · subst y
    rw [sfH_row (by omega) (by omega) _ (by omega), tn, if_neg (by omega)]
  · exact sfH_out y n
theorem KFM.pfH {c i t m n : Nat} {h h' : Hp} (x : KFM c i t h h') (t6 : t < 6) (hm : m ≤ 45) (hn : n ≤ m) : KFM c i t h (pfH h' (Int32.ofNat t) m n) := by
  have tn : (Int32.ofNat t).toNatClampNeg = t := o32c (by omega)
  have ti : (Int32.ofNat t).toInt = t := i32n (by omega)
  refine x.trans ⟨fun K j z0 z1 z2 z3 z4 z5 z6 z7 z8 z9 => ?_, pfH_2 n⟩
  by_cases y : K = 260
  · subst y
    rw [pfH_row (by omega) (by omega) (by omega) _ hn, tn, if_neg (by omega)]
  · exact pfH_out y n

theorem go_write_c {g h hm : Hp} {st c i p d d2 : Nat} {s : Int32} {r r2 : Option Value × Hp × Nat} (G : GS g) (R : RRM g h hm st c i st (CUn g h hm c i p p p)) (hp : p < stLen (qJ g c i)) (hC : stC (qJ g c i) p = 3) (hk : qK g c i = 3) (e : Ev d 45 (0, [some (.ref 208), some (.ref (148 + 12 * c)), some (.ref (152 + 12 * c + i)), some (.int s), none], [], h, fl_tot) r) (e2 : Ev d2 158 (113, lsM g c i p, [], hm, fl_tot) r2) : GO g st c i p (lsM g c i p) (fun h' hm' => CUn g h' hm' c i (p + 1) p (p + 1)) d2 r r2 := by
  obtain ⟨⟨X, M, S15, K, hT⟩, RT, RO, hc, hi, CK, b1, b2, ⟨u1, u2⟩, u3, u4, u5, u6, u7, u8⟩ := id R
  have c5 := G.c5 hc
  have i8 := G.i8 hc hi
  have T6 := G.T6 hc hi
  have hJ := G.len hc hi
  obtain ⟨p10, hp0, hpl, hcd⟩ := cx G X hc hi (by omega) hp u3 u5
  obtain ⟨eF, eK⟩ := cF G X hc hi
  obtain ⟨s1, s2, s3, s4, s5, s6, s7⟩ := SM.st G M hc hi
  obtain ⟨tc, ow1, ow2⟩ := RT _ (G.T hc hi)
  have I := G.inn hc hi hp
  have tb := G.tb hc hi hp
  have e1 : h.1 (152 + 12 * c + i) 9 + Int32.ofInt 1 = Int32.ofNat (p + 1) := by rw [u3, o32 (by omega)]
  have ex : (Int32.ofNat (8 * c + i)).toNatClampNeg = 8 * c + i := o32c (by omega)
  have ecn : (Int32.ofNat c).toNatClampNeg = c := o32c (by omega)
  have eTn : (Int32.ofNat (qT g c i)).toNatClampNeg = qT g c i := o32c (by omega)
  have kg : (g.1 224 (qT g c i)).toInt = 3 := hk
  have eO : (g.1 229 (8 * c + i)).toInt = qO g c i := rfl
  have op1 : 0 ≤ qO g c i ∧ qO g c i ≤ 1 := by
    obtain ⟨-, -, o3, o4⟩ := G.op hc hi
    rw [hk] at o4
    exact ⟨o3, o4⟩
  have hnk : (h.1 1 3).toInt = qc g := by rw [X.2.1.2]; exact G.1.2.2.2
  have hat : (h.1 (148 + 12 * c) 4).toInt = i := by rw [CK.1.1, i32n (by omega)]
  have hw0 : (h.1 (152 + 12 * c + i) 10).toInt = 0 := by rw [u1]; decide
  have kS : (Int32.ofInt (qS g c i p)).toInt = 2 := by rw [I.1, hC]; rfl
  have t3 := tb.2.2.2.2.2.2.2.2 hC
  obtain ⟨-, -, -, -, -, e2⟩ := z_does_write (h := hm) (c := Int32.ofNat c) (x := Int32.ofNat (8 * c + i)) M.1 kS e2
  obtain ⟨d3, v3, h3, n3, e3, e4⟩ := z_c169 e2
  have a8 := (CK.2.2.1 i (Nat.le_refl _) hi).1
  obtain ⟨-, -, -, -, -, -, -, -, -, -, w⟩ := y_go_write_counter (X.sq (G.c5 hc)) (G.T6 hc hi) (G.c5 hc) (G.i8 hc hi) (X.ak G hc hi) hp0 hpl (by rw [hcd]; exact hC) (by rw [eK]; exact hk) hat hw0 hnk G.1.2.2.1 e
  have Z := z_write_counter M.1 (t := Int32.ofNat (qT g c i)) (op := g.1 229 (8 * c + i)) (a := g.1 230 (8 * c + i)) (by rw [ex]; exact s2) (by rw [ex]; exact s5) (by rw [ex]; exact s6) (by rw [eTn, s3]; exact hk) e3
  rw [eTn, ecn, i4m T6 c5] at Z
  obtain ⟨-, -, -, -, wz⟩ := Z
  have ts := tc.2.2.1 kg
  have em : monI (qK g c i) (qO g c i) (qA g c i) c = (c : Int) % 4 := by
    unfold monI
    rw [hk, if_neg (by decide), if_neg (by decide), if_pos rfl, if_neg (fun z => t3.2.2.1 ⟨hk, z⟩)]
  have hix : (h.1 (152 + 12 * c + i) 8 &&& Int32.ofInt 31).toNatClampNeg = c % 4 := by
    rw [a8, em, i31k (by omega) (by omega)]
    omega
  obtain ⟨n13, n14⟩ := u7.2.2.2.1 hk t3.1
  rw [hix, e1] at w
  have R1 := RRM.cu G (h' := fl_setI (fl_setI (fl_setI h (152 + 12 * c + i) 13 (h.1 (152 + 12 * c + i) 13 + g.1 230 (8 * c + i))) (5 + 24 * qT g c i) 1 (h.1 (5 + 24 * qT g c i) 1 ||| ((Int32.ofInt 1) <<< ((h.1 (152 + 12 * c + i) 8 &&& Int32.ofInt 31) &&& 31)))) (6 + 24 * qT g c i) (c % 4) (h.1 (152 + 12 * c + i) 13 + g.1 230 (8 * c + i))) (hm' := fl_setI (fl_setI hm 248 c (hm.1 248 c + g.1 230 (8 * c + i))) 263 (4 * qT g c i + c % 4) (hm.1 248 c + g.1 230 (8 * c + i))) (b' := (st : Int) + 1) (pc' := p) (p' := p + 1) (by omega) R ((((KFX.refl _ _ _ _).set _ _ _ (by omega)).set _ _ _ (by omega)).set _ _ _ (by omega)) (((KFM.refl _ _ _ _).set _ _ _ (by omega)).set _ _ _ (by omega)) ((hT.full 248 _ _ (by decide +kernel) (by decide +kernel)).full 263 _ _ (by decide +kernel) (by decide +kernel)) ?_ ?_ ?_ rfl ?_ ?_ ?_ ?_ (fun j => ?_) (fun j => ?_) ⟨fun z => by omega, fun z => by omega, fun _ m m4 => ?_, fun z => by omega⟩ ⟨fun z => by omega, fun z => by omega, fun z => by omega, fun _ _ => ⟨?_, ?_⟩, fun z => by omega, fun z => by omega⟩ (HLD.next G hc hi hp (by omega))
  · obtain ⟨y, R2⟩ := R1.wr G ⟨none, Or.inl rfl, _, _, _, _, wz⟩
    obtain ⟨y1, y2, y3⟩ := tri y
    subst y2
    exact ⟨_, _, w, e4 y1 y3, R2⟩
  all_goals first | (simp (disch := omega) only [setI_at, setI_no]; done) | (simp (disch := omega) only [setI_at, setI_no]; first | exact n14 | exact u3 | (rw [n13]; done)) | (by_cases y : m = c % 4; all_goals first | (rw [y, setI_at, setI_at, n13]; done) | (simp (disch := omega) only [setI_no]; exact ts m m4))

set_option maxHeartbeats 8000000 in
theorem go_write_q {g h hm : Hp} {st c i p d d2 : Nat} {s : Int32} {r r2 : Option Value × Hp × Nat} (G : GS g) (R : RRM g h hm st c i st (CUn g h hm c i p p p)) (hp : p < stLen (qJ g c i)) (hC : stC (qJ g c i) p = 3) (hk : qK g c i = 1) (rm : qO g c i < 1 → (hm.1 261 (qT g c i)).toInt ≤ 39) (e : Ev d 45 (0, [some (.ref 208), some (.ref (148 + 12 * c)), some (.ref (152 + 12 * c + i)), some (.int s), none], [], h, fl_tot) r) (e2 : Ev d2 158 (113, lsM g c i p, [], hm, fl_tot) r2) : GO g st c i p (lsM g c i p) (fun h' hm' => CUn g h' hm' c i (p + 1) p (p + 1)) d2 r r2 := by
  obtain ⟨⟨X, M, S15, K, hT⟩, RT, RO, hc, hi, CK, b1, b2, ⟨u1, u2⟩, u3, u4, u5, u6, u7, u8⟩ := id R
  have c5 := G.c5 hc
  have i8 := G.i8 hc hi
  have T6 := G.T6 hc hi
  have hJ := G.len hc hi
  obtain ⟨p10, hp0, hpl, hcd⟩ := cx G X hc hi (by omega) hp u3 u5
  obtain ⟨eF, eK⟩ := cF G X hc hi
  obtain ⟨s1, s2, s3, s4, s5, s6, s7⟩ := SM.st G M hc hi
  obtain ⟨tc, ow1, ow2⟩ := RT _ (G.T hc hi)
  have I := G.inn hc hi hp
  have tb := G.tb hc hi hp
  have e1 : h.1 (152 + 12 * c + i) 9 + Int32.ofInt 1 = Int32.ofNat (p + 1) := by rw [u3, o32 (by omega)]
  have ex : (Int32.ofNat (8 * c + i)).toNatClampNeg = 8 * c + i := o32c (by omega)
  have ecn : (Int32.ofNat c).toNatClampNeg = c := o32c (by omega)
  have eTn : (Int32.ofNat (qT g c i)).toNatClampNeg = qT g c i := o32c (by omega)
  have b69 := TI.rng hT 69 6 0 40 (by decide +kernel) (by decide) (by decide) T6
  have kg : (g.1 224 (qT g c i)).toInt = 1 := hk
  have eO : (g.1 229 (8 * c + i)).toInt = qO g c i := rfl
  have op1 : 0 ≤ qO g c i ∧ qO g c i ≤ 1 := by
    obtain ⟨-, -, o3, o4⟩ := G.op hc hi
    rw [hk] at o4
    exact ⟨o3, o4⟩
  have hnk : (h.1 1 3).toInt = qc g := by rw [X.2.1.2]; exact G.1.2.2.2
  have hat : (h.1 (148 + 12 * c) 4).toInt = i := by rw [CK.1.1, i32n (by omega)]
  have hw0 : (h.1 (152 + 12 * c + i) 10).toInt = 0 := by rw [u1]; decide
  have kS : (Int32.ofInt (qS g c i p)).toInt = 2 := by rw [I.1, hC]; rfl
  have t3 := tb.2.2.2.2.2.2.2.2 hC
  obtain ⟨-, -, -, -, -, e2⟩ := z_does_write (h := hm) (c := Int32.ofNat c) (x := Int32.ofNat (8 * c + i)) M.1 kS e2
  obtain ⟨d3, v3, h3, n3, e3, e4⟩ := z_c169 e2
  have W := y_go_write_queue (X.sq (G.c5 hc)) (G.T6 hc hi) (G.c5 hc) (G.i8 hc hi) (X.ak G hc hi) hp0 hpl (by rw [hcd]; exact hC) (by rw [eK]; exact hk) hat hw0 hnk G.1.2.2.1 e
  have tq := tc.2.1 (by omega)
  obtain ⟨n, em⟩ : ∃ n : Nat, (hm.1 261 (qT g c i)).toInt = n := ⟨(hm.1 261 (qT g c i)).toInt.toNat, by
    have : 0 ≤ (hm.1 261 (qT g c i)).toInt := b69.1
    omega⟩
  have n40 : n ≤ 40 := by
    have : (hm.1 261 (qT g c i)).toInt ≤ 40 := b69.2
    omega
  have en := e61 em (by omega)
  have tl := congrArg Int32.toInt tq.1
  have tI : (Int32.ofNat (qT g c i)).toInt = qT g c i := i32n (by omega)
  have Z := z_write_queue M.1 (t := Int32.ofNat (qT g c i)) (m := n) (op := g.1 229 (8 * c + i)) (a := g.1 230 (8 * c + i)) (by rw [ex]; exact s2) (by rw [ex]; exact s5) (by rw [ex]; exact s6) (by omega) (by omega) (by rw [eTn]; exact em) (by omega) (by rw [eTn, s3]; exact hk) e3
  rw [eTn, ecn, s3, show ((Int32.ofInt 48) * Int32.ofNat (qT g c i) + hm.1 261 (qT g c i)).toNatClampNeg = 48 * qT g c i + n by rw [en, i48 (by omega) (by omega)]] at Z
  obtain ⟨n1, n2⟩ := u7.2.1 hk t3.1
  have n14 : qO g c i ≠ 0 → ((h.1 (152 + 12 * c + i) 14).toInt = 0 ↔ (hm.1 247 c).toInt ≠ 0) := fun z => by
    rw [(n2 z).2]
    split <;> omega
  by_cases o0 : qO g c i = 0
  · have n1 := n1 o0
    have w : r = (none, fl_setI (wkH (fl_setI (fl_setI h (6 + 24 * qT g c i) ((h.1 (5 + 24 * qT g c i) 2 + h.1 (5 + 24 * qT g c i) 3) &&& Int32.ofInt 63).toNatClampNeg (g.1 230 (8 * c + i))) (5 + 24 * qT g c i) 3 (h.1 (5 + 24 * qT g c i) 3 + Int32.ofInt 1)) (Int32.ofNat (qT g c i)) (qc g)) (152 + 12 * c + i) 9 (Int32.ofNat (p + 1)), fl_tot) := by
      rcases W with ⟨y1, y2, y3, y4, y5, y6, y7, y8, y9, y10, w⟩ | ⟨y1, y2, y3, y4, y5, y6, y7, y8, y9, y10, y11, w⟩ | ⟨y1, y2, y3, y4, y5, y6, y7, y8, y9, y10, y11, w⟩ | ⟨y1, y2, y3, y4, y5, y6, y7, y8, y9, w⟩
      · exfalso; omega
      · exfalso; omega
      · exfalso; omega
      · rw [w, e1]
    have wz : Ev d3 169 (452, [some (.ref 223), some (.int (Int32.ofNat c)), some (.int (Int32.ofNat (8 * c + i))), some (.int (Int32.ofNat (qT g c i))), some (.int (g.1 229 (8 * c + i))), some (.int (g.1 230 (8 * c + i))), none], [], fl_setI (fl_setI hm 260 (48 * qT g c i + n) (g.1 230 (8 * c + i))) 261 (qT g c i) (hm.1 261 (qT g c i) + Int32.ofInt 1), fl_tot) (v3, h3, n3) := by
      rcases Z with ⟨y1, y2, y3, y4, wz⟩ | ⟨y1, y2, y3, y4, y5, wz⟩ | ⟨y1, y2, y3, y4, y5, wz⟩ | ⟨y1, y2, y3, wz⟩
      · exfalso; omega
      · exfalso; omega
      · exfalso; omega
      · exact wz
    clear W Z tb I t3
    have R1 := RRM.cu G (h' := fl_setI (fl_setI h (6 + 24 * qT g c i) ((h.1 (5 + 24 * qT g c i) 2 + h.1 (5 + 24 * qT g c i) 3) &&& Int32.ofInt 63).toNatClampNeg (g.1 230 (8 * c + i))) (5 + 24 * qT g c i) 3 (h.1 (5 + 24 * qT g c i) 3 + Int32.ofInt 1)) (hm' := fl_setI (fl_setI hm 260 (48 * qT g c i + n) (g.1 230 (8 * c + i))) 261 (qT g c i) (hm.1 261 (qT g c i) + Int32.ofInt 1)) (b' := (st : Int) + 1) (pc' := p) (p' := p + 1) (by omega) R (((KFX.refl _ _ _ _).set _ _ _ (by omega)).set _ _ _ (by omega)) (((KFM.refl _ _ _ _).set _ _ _ (by omega)).set _ _ _ (by omega)) ((hT.full 260 _ _ (by decide +kernel) (by decide +kernel)).a 261 _ 0 40 (by decide +kernel) (by decide +kernel) (by rw [en, o32 (by omega), i32n (by omega)]; omega)) ?_ ?_ ?_ rfl ?_ ?_ ?_ ?_ (fun j => ?_) (fun j => ?_) ⟨fun z => by omega, fun _ => (TRq.up (by omega) (TRq.putLast _ tq em (by omega))), fun z => by omega, fun z => by omega⟩ ⟨fun z => by omega, fun _ _ => ⟨fun z => ?_, fun z => ?_⟩, fun z => by omega, fun z => by omega, fun z => by omega, fun z => by omega⟩ (HLD.next G hc hi hp (by omega))
    · obtain ⟨y, R2⟩ := R1.wr G ⟨none, Or.inl rfl, _, _, _, _, wz⟩
      obtain ⟨y1, y2, y3⟩ := tri y
      subst y2
      exact ⟨_, _, w, e4 y1 y3, R2⟩
    all_goals first | rfl | exact u3 | exact n1 | exact absurd o0 z | (simp (disch := omega) only [setI_at, setI_no, sfH_out, pfH_out]; done) | (simp (disch := omega) only [setI_at, setI_no, sfH_out, pfH_out]; first | exact u3 | exact n1 | exact absurd o0 z)
  · have n2 := n2 o0
    have n14 := n14 o0
    by_cases y7 : (hm.1 247 c).toInt = 0
    · have n15 : (h.1 (152 + 12 * c + i) 14).toInt ≠ 0 := fun z => n14.mp z y7
      have w : r = (none, fl_setI (wkH (h) (Int32.ofNat (qT g c i)) (qc g)) (152 + 12 * c + i) 9 (Int32.ofNat (p + 1)), fl_tot) := by
        rcases W with ⟨y1, y2, y3, y4, y5, y6, y7, y8, y9, y10, w⟩ | ⟨y1, y2, y3, y4, y5, y6, y7, y8, y9, y10, y11, w⟩ | ⟨y1, y2, y3, y4, y5, y6, y7, y8, y9, y10, y11, w⟩ | ⟨y1, y2, y3, y4, y5, y6, y7, y8, y9, w⟩
        · rw [w, e1]
        · exfalso; omega
        · exfalso; omega
        · exfalso; omega
      have wz : Ev d3 169 (452, [some (.ref 223), some (.int (Int32.ofNat c)), some (.int (Int32.ofNat (8 * c + i))), some (.int (Int32.ofNat (qT g c i))), some (.int (g.1 229 (8 * c + i))), some (.int (g.1 230 (8 * c + i))), none], [], hm, fl_tot) (v3, h3, n3) := by
        rcases Z with ⟨y1, y2, y3, y4, wz⟩ | ⟨y1, y2, y3, y4, y5, wz⟩ | ⟨y1, y2, y3, y4, y5, wz⟩ | ⟨y1, y2, y3, wz⟩
        · exact wz
        · exfalso; omega
        · exfalso; omega
        · exfalso; omega
      clear W Z tb I t3
      have R1 := RRM.cu G (h' := h) (hm' := hm) (b' := (st : Int) + 1) (pc' := p) (p' := p + 1) (by omega) R (KFX.refl _ _ _ _) (KFM.refl _ _ _ _) hT ?_ ?_ ?_ rfl ?_ ?_ ?_ ?_ (fun j => ?_) (fun j => ?_) (tc.fr b69.2 (by omega) ⟨fun j => ⟨rfl, rfl, rfl, rfl⟩, fun K j hK h1 h2 => rfl, fun j h1 h2 => rfl, fun K hK => rfl, fun j h1 h2 => rfl⟩) ⟨fun z => by omega, fun _ _ => ⟨fun z => ?_, fun z => ?_⟩, fun z => by omega, fun z => by omega, fun z => by omega, fun z => by omega⟩ (HLD.next G hc hi hp (by omega))
      · obtain ⟨y, R2⟩ := R1.wr G ⟨none, Or.inl rfl, _, _, _, _, wz⟩
        obtain ⟨y1, y2, y3⟩ := tri y
        subst y2
        exact ⟨_, _, w, e4 y1 y3, R2⟩
      all_goals first | rfl | exact u3 | exact n2 | exact absurd z o0 | (simp (disch := omega) only [setI_at, setI_no, sfH_out, pfH_out]; done) | (simp (disch := omega) only [setI_at, setI_no, sfH_out, pfH_out]; first | exact u3 | exact n2 | exact absurd z o0)
    · have n15 : (h.1 (152 + 12 * c + i) 14).toInt = 0 := n14.mpr y7
      by_cases n0 : n = 0
      · have n9 : (hm.1 261 (qT g c i)).toInt = 0 := by omega
        have w : r = (none, fl_setI (wkH (h) (Int32.ofNat (qT g c i)) (qc g)) (152 + 12 * c + i) 9 (Int32.ofNat (p + 1)), fl_tot) := by
          rcases W with ⟨y1, y2, y3, y4, y5, y6, y7, y8, y9, y10, w⟩ | ⟨y1, y2, y3, y4, y5, y6, y7, y8, y9, y10, y11, w⟩ | ⟨y1, y2, y3, y4, y5, y6, y7, y8, y9, y10, y11, w⟩ | ⟨y1, y2, y3, y4, y5, y6, y7, y8, y9, w⟩
          · exfalso; omega
          · exfalso; omega
          · rw [w, e1]
          · exfalso; omega
        have wz : Ev d3 169 (452, [some (.ref 223), some (.int (Int32.ofNat c)), some (.int (Int32.ofNat (8 * c + i))), some (.int (Int32.ofNat (qT g c i))), some (.int (g.1 229 (8 * c + i))), some (.int (g.1 230 (8 * c + i))), none], [], fl_setI (sfH hm (Int32.ofNat (qT g c i)) (n - 1)) 261 (qT g c i) (hm.1 261 (qT g c i) - Int32.ofInt 0), fl_tot) (v3, h3, n3) := by
          rcases Z with ⟨y1, y2, y3, y4, wz⟩ | ⟨y1, y2, y3, y4, y5, wz⟩ | ⟨y1, y2, y3, y4, y5, wz⟩ | ⟨y1, y2, y3, wz⟩
          · exfalso; omega
          · exact wz
          · exfalso; omega
          · exfalso; omega
        have e0 : fl_setI (sfH hm (Int32.ofNat (qT g c i)) (n - 1)) 261 (qT g c i) (hm.1 261 (qT g c i) - Int32.ofInt 0) = hm := by
          rw [show n = 0 by omega, i32_sub0]
          exact setI_id _ _ _
        rw [e0] at wz
        clear W Z tb I t3
        have R1 := RRM.cu G (h' := h) (hm' := hm) (b' := (st : Int) + 1) (pc' := p) (p' := p + 1) (by omega) R (KFX.refl _ _ _ _) (KFM.refl _ _ _ _) hT ?_ ?_ ?_ rfl ?_ ?_ ?_ ?_ (fun j => ?_) (fun j => ?_) (tc.fr b69.2 (by omega) ⟨fun j => ⟨rfl, rfl, rfl, rfl⟩, fun K j hK h1 h2 => rfl, fun j h1 h2 => rfl, fun K hK => rfl, fun j h1 h2 => rfl⟩) ⟨fun z => by omega, fun _ _ => ⟨fun z => ?_, fun z => ?_⟩, fun z => by omega, fun z => by omega, fun z => by omega, fun z => by omega⟩ (HLD.next G hc hi hp (by omega))
        · obtain ⟨y, R2⟩ := R1.wr G ⟨none, Or.inl rfl, _, _, _, _, wz⟩
          obtain ⟨y1, y2, y3⟩ := tri y
          subst y2
          exact ⟨_, _, w, e4 y1 y3, R2⟩
        all_goals first | rfl | exact u3 | exact n2 | exact absurd z o0 | (simp (disch := omega) only [setI_at, setI_no, sfH_out, pfH_out]; done) | (simp (disch := omega) only [setI_at, setI_no, sfH_out, pfH_out]; first | exact u3 | exact n2 | exact absurd z o0)
      · have n9 : 0 < (hm.1 261 (qT g c i)).toInt := by omega
        have w : r = (none, fl_setI (wkH (fl_setI (fl_setI h (5 + 24 * qT g c i) 2 ((h.1 (5 + 24 * qT g c i) 2 + Int32.ofInt 1) &&& Int32.ofInt 63)) (5 + 24 * qT g c i) 3 (h.1 (5 + 24 * qT g c i) 3 - Int32.ofInt 1)) (Int32.ofNat (qT g c i)) (qc g)) (152 + 12 * c + i) 9 (Int32.ofNat (p + 1)), fl_tot) := by
          rcases W with ⟨y1, y2, y3, y4, y5, y6, y7, y8, y9, y10, w⟩ | ⟨y1, y2, y3, y4, y5, y6, y7, y8, y9, y10, y11, w⟩ | ⟨y1, y2, y3, y4, y5, y6, y7, y8, y9, y10, y11, w⟩ | ⟨y1, y2, y3, y4, y5, y6, y7, y8, y9, w⟩
          · exfalso; omega
          · rw [w, e1]
          · exfalso; omega
          · exfalso; omega
        have wz : Ev d3 169 (452, [some (.ref 223), some (.int (Int32.ofNat c)), some (.int (Int32.ofNat (8 * c + i))), some (.int (Int32.ofNat (qT g c i))), some (.int (g.1 229 (8 * c + i))), some (.int (g.1 230 (8 * c + i))), none], [], fl_setI (sfH hm (Int32.ofNat (qT g c i)) (n - 1)) 261 (qT g c i) (hm.1 261 (qT g c i) - Int32.ofInt 1), fl_tot) (v3, h3, n3) := by
          rcases Z with ⟨y1, y2, y3, y4, wz⟩ | ⟨y1, y2, y3, y4, y5, wz⟩ | ⟨y1, y2, y3, y4, y5, wz⟩ | ⟨y1, y2, y3, wz⟩
          · exfalso; omega
          · exfalso; omega
          · exact wz
          · exfalso; omega
        clear W Z tb I t3
        have R1 := RRM.cu G (h' := fl_setI (fl_setI h (5 + 24 * qT g c i) 2 ((h.1 (5 + 24 * qT g c i) 2 + Int32.ofInt 1) &&& Int32.ofInt 63)) (5 + 24 * qT g c i) 3 (h.1 (5 + 24 * qT g c i) 3 - Int32.ofInt 1)) (hm' := fl_setI (sfH hm (Int32.ofNat (qT g c i)) (n - 1)) 261 (qT g c i) (hm.1 261 (qT g c i) - Int32.ofInt 1)) (b' := (st : Int) + 1) (pc' := p) (p' := p + 1) (by omega) R (((KFX.refl _ _ _ _).set _ _ _ (by omega)).set _ _ _ (by omega)) (((KFM.refl _ _ _ _).sfH T6 (by omega)).set _ _ _ (by omega)) ((sfH_T hT _).a 261 _ 0 40 (by decide +kernel) (by decide +kernel) (by rw [en, osub (by omega) (by omega), i32n (by omega)]; omega)) ?_ ?_ ?_ rfl ?_ ?_ ?_ ?_ (fun j => ?_) (fun j => ?_) ⟨fun z => by omega, fun _ => (TRq.up (by omega) (TRq.takeFirst T6 tq em (by omega) (by omega))), fun z => by omega, fun z => by omega⟩ ⟨fun z => by omega, fun _ _ => ⟨fun z => ?_, fun z => ?_⟩, fun z => by omega, fun z => by omega, fun z => by omega, fun z => by omega⟩ (HLD.next G hc hi hp (by omega))
        · obtain ⟨y, R2⟩ := R1.wr G ⟨none, Or.inl rfl, _, _, _, _, wz⟩
          obtain ⟨y1, y2, y3⟩ := tri y
          subst y2
          exact ⟨_, _, w, e4 y1 y3, R2⟩
        all_goals first | rfl | exact u3 | exact n2 | exact absurd z o0 | (simp (disch := omega) only [setI_at, setI_no, sfH_out, pfH_out]; done) | (simp (disch := omega) only [setI_at, setI_no, sfH_out, pfH_out]; first | exact u3 | exact n2 | exact absurd z o0)
