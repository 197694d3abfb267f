
set_option maxRecDepth 20000
/-! AN ACT ENDS: what it answers, on both sides -/
def t2g (k op f : Int) : Bool := decide (rdP k op ≤ stLen (stabJ k op f)) && (!decide (k = 5) || (decide (wrP f ≤ stLen (stabJ k op f)) && decide (5 ≤ stLen (stabJ k op f))))
theorem t2g_ok : ((List.range 6).all fun k => (List.range 5).all fun op => !(decide ((op : Int) ≤ opMax k)) || (List.range 3).all fun f => t2g k op f) = true := by decide +kernel
theorem GS.rl {g : Hp} {c i : Nat} (G : GS g) (hc : c < qc g) (hi : i < qm g c) : rdP (qK g c i) (qO g c i) ≤ stLen (qJ g c i) ∧ (qK g c i = 5 → wrP (qF g c i) ≤ stLen (qJ g c i) ∧ 5 ≤ stLen (qJ g c i)) := by
  obtain ⟨h1, h2, h3, h4⟩ := G.op hc hi
  have hf := G.f hc hi
  have b4 : qO g c i ≤ 4 := by unfold opMax at h4; repeat' split at h4 <;> omega
  have e1 : (((qK g c i).toNat : Nat) : Int) = qK g c i := by omega
  have e2 : (((qO g c i).toNat : Nat) : Int) = qO g c i := by omega
  have e3 : (((qF g c i).toNat : Nat) : Int) = qF g c i := by omega
  have h := List.all_eq_true.mp (List.all_eq_true.mp t2g_ok (qK g c i).toNat (List.mem_range.mpr (by omega))) (qO g c i).toNat (List.mem_range.mpr (by omega))
  rw [e1, e2, Bool.or_eq_true] at h
  rcases h with h | h
  · simp only [Bool.not_eq_true', decide_eq_false_iff_not] at h
    exact absurd h4 h
  · have h := List.all_eq_true.mp h (qF g c i).toNat (List.mem_range.mpr (by omega))
    rw [e3] at h
    unfold t2g at h
    rw [Bool.and_eq_true, decide_eq_true_eq, Bool.or_eq_true] at h
    refine ⟨h.1, fun z => ?_⟩
    rcases h.2 with y | y
    · rw [decide_eq_true z] at y
      cases y
    · simp only [Bool.and_eq_true, decide_eq_true_eq] at y
      exact y
theorem z_306 {d : Nat} {h : Hp} {c x st m bare : Int32} {r : Option Value × Hp × Nat} (e : Ev d 158 (306, [some (.ref 223), some (.int c), some (.int x), some (.int st), some (.int m), some (.int bare)], [], h, fl_tot) r) : ∃ d' v h2 n2, Ev d' 177 (0, [some (.ref 223), some (.int c), some (.int x), none, none, none, none], [], h, fl_tot) (v, h2, n2) ∧ (v = none → n2 = fl_tot → Ev d 158 (312, [some (.ref 223), some (.int c), some (.int x), some (.int st), some (.int m), some (.int bare)], [], h2, fl_tot) r) := by
  have e : Ev d 158 (309, [some (.ref 223), some (.int c), some (.int x), some (.int st), some (.int m), some (.int bare)], [.int x, .int c, .ref 223], h, fl_tot) r := e.bk [((2, [0, 2], 307), 0), ((2, [1, 0], 308), 0), ((2, [2, 0], 309), 0)] [] (by decide +kernel) trivial rfl
  obtain ⟨d', v, h2, n2, -, ec, e⟩ := b_call (m2 := 177) (k := 2) (nL := 7) (as := [.ref 223, .int c, .int x]) (rest := []) (L := [some (.ref 223), some (.int c), some (.int x), none, none, none, none]) e (show fl_code 158 309 = some (18, [((177 : Nat) : Int), ((2 : Nat) : Int)], 312) by decide +kernel) rfl (by decide +kernel) rfl rfl rfl
  refine ⟨d', v, h2, n2, ec, fun z1 z2 => ?_⟩
  rw [z1, z2] at e
  exact e

theorem ends_map {g h hb_ : Hp} {st c i mk d : Nat} {r : Option Value × Hp × Nat} (G : GS g) (M : SM g hb_) (hc : c < qc g) (hi : i < qm g c) (hk : qK g c i = 0) (n13 : h.1 (152 + 12 * c + i) 13 = hb_.1 248 c) (n14 : (h.1 (152 + 12 * c + i) 14).toInt = (if qO g c i = 3 ∨ (hb_.1 247 c).toInt ≠ 0 then 0 else 1)) (hmk : mk < 80) (st9 : st < 900) (e16 : hb_.1 223 16 = Int32.ofNat mk) (e15 : hb_.1 223 15 = Int32.ofNat st) (e43 : hb_.1 243 c = Int32.ofNat i) (e : Ev d 177 (0, [some (.ref 223), some (.int (Int32.ofNat c)), some (.int (Int32.ofNat (8 * c + i))), none, none, none, none], [], hb_, fl_tot) r) : r = (none, fl_setI (fl_setI (fl_setI (fl_setI (fl_setI (fl_setI (fl_setI (fl_setI (fl_setI (fl_setI (fl_setI hb_ 235 mk (Int32.ofNat (8 * c + i))) 236 mk (Int32.ofInt 1)) 237 mk (Int32.ofNat st)) 242 (8 * c + i) (Int32.ofNat mk)) 223 16 (Int32.ofNat (mk + 1))) 239 (8 * c + i) (h.1 (152 + 12 * c + i) 14)) 238 (8 * c + i) (if (h.1 (152 + 12 * c + i) 14).toInt = 0 then h.1 (152 + 12 * c + i) 13 else Int32.ofInt 0)) 243 c (Int32.ofNat (i + 1))) 244 c (Int32.ofInt 0)) 245 c (Int32.ofInt 0)) 251 c (Int32.ofInt 0), fl_tot) ∧ 0 ≤ (h.1 (152 + 12 * c + i) 14).toInt ∧ (h.1 (152 + 12 * c + i) 14).toInt ≤ 4 := by
  have c5 := G.c5 hc
  have i8 := G.i8 hc hi
  have T6 := G.T6 hc hi
  obtain ⟨s1, s2, s3, s4, s5, s6, s7⟩ := SM.st G M hc hi
  have ex : (Int32.ofNat (8 * c + i)).toNatClampNeg = 8 * c + i := o32c (by omega)
  have ecn : (Int32.ofNat c).toNatClampNeg = c := o32c (by omega)
  have eTn : (Int32.ofNat (qT g c i)).toNatClampNeg = qT g c i := o32c (by omega)
  have emk : (Int32.ofNat mk).toNatClampNeg = mk := o32c (by omega)
  have o1 : Int32.ofNat mk + Int32.ofInt 1 = Int32.ofNat (mk + 1) := o32 (by omega)
  have o2 : Int32.ofNat i + Int32.ofInt 1 = Int32.ofNat (i + 1) := o32 (by omega)
  have eO : (g.1 229 (8 * c + i)).toInt = qO g c i := rfl
  have Z := z_ends_map M.1 (t := Int32.ofNat (qT g c i)) (op := g.1 229 (8 * c + i)) (a := g.1 230 (8 * c + i)) (by rw [ex]; exact s2) (by rw [ex]; exact s5) (by rw [ex]; exact s6) (by rw [eTn, s3]; exact hk) e
  simp only [e16, e15, e43, ex, ecn, eTn, emk, o1, o2, ownm c5 i8] at Z
  rcases Z with ⟨q1, q2, w⟩ | ⟨q1, q2, q3, w⟩ | ⟨q1, q2, q3, w⟩
  · have eh : h.1 (152 + 12 * c + i) 14 = Int32.ofInt 0 := Int32.toInt_inj.mp (by rw [n14]; first | decide | (split <;> first | decide | (exfalso; omega)))
    rw [eh, if_pos (show (Int32.ofInt 0).toInt = 0 by decide), n13]
    exact ⟨w, by decide, by decide⟩
  · have eh : h.1 (152 + 12 * c + i) 14 = Int32.ofInt 1 := Int32.toInt_inj.mp (by rw [n14]; first | decide | (split <;> first | decide | (exfalso; omega)))
    rw [eh, if_neg (show ¬ (Int32.ofInt 1).toInt = 0 by decide)]
    exact ⟨w, by decide, by decide⟩
  · have eh : h.1 (152 + 12 * c + i) 14 = Int32.ofInt 0 := Int32.toInt_inj.mp (by rw [n14]; first | decide | (split <;> first | decide | (exfalso; omega)))
    rw [eh, if_pos (show (Int32.ofInt 0).toInt = 0 by decide), n13]
    exact ⟨w, by decide, by decide⟩

theorem ends_queue {g h hb_ : Hp} {st c i mk d : Nat} {r : Option Value × Hp × Nat} (G : GS g) (M : SM g hb_) (hc : c < qc g) (hi : i < qm g c) (hk : qK g c i = 1) (n13 : h.1 (152 + 12 * c + i) 13 = (if qO g c i = 0 then g.1 230 (8 * c + i) else hb_.1 248 c)) (n14 : (h.1 (152 + 12 * c + i) 14).toInt = (if qO g c i = 0 ∨ (hb_.1 247 c).toInt ≠ 0 then 0 else 1)) (hmk : mk < 80) (st9 : st < 900) (e16 : hb_.1 223 16 = Int32.ofNat mk) (e15 : hb_.1 223 15 = Int32.ofNat st) (e43 : hb_.1 243 c = Int32.ofNat i) (e : Ev d 177 (0, [some (.ref 223), some (.int (Int32.ofNat c)), some (.int (Int32.ofNat (8 * c + i))), none, none, none, none], [], hb_, fl_tot) r) : r = (none, fl_setI (fl_setI (fl_setI (fl_setI (fl_setI (fl_setI (fl_setI (fl_setI (fl_setI (fl_setI (fl_setI hb_ 235 mk (Int32.ofNat (8 * c + i))) 236 mk (Int32.ofInt 1)) 237 mk (Int32.ofNat st)) 242 (8 * c + i) (Int32.ofNat mk)) 223 16 (Int32.ofNat (mk + 1))) 239 (8 * c + i) (h.1 (152 + 12 * c + i) 14)) 238 (8 * c + i) (if (h.1 (152 + 12 * c + i) 14).toInt = 0 then h.1 (152 + 12 * c + i) 13 else Int32.ofInt 0)) 243 c (Int32.ofNat (i + 1))) 244 c (Int32.ofInt 0)) 245 c (Int32.ofInt 0)) 251 c (Int32.ofInt 0), fl_tot) ∧ 0 ≤ (h.1 (152 + 12 * c + i) 14).toInt ∧ (h.1 (152 + 12 * c + i) 14).toInt ≤ 4 := by
  have c5 := G.c5 hc
  have i8 := G.i8 hc hi
  have T6 := G.T6 hc hi
  obtain ⟨s1, s2, s3, s4, s5, s6, s7⟩ := SM.st G M hc hi
  have ex : (Int32.ofNat (8 * c + i)).toNatClampNeg = 8 * c + i := o32c (by omega)
  have ecn : (Int32.ofNat c).toNatClampNeg = c := o32c (by omega)
  have eTn : (Int32.ofNat (qT g c i)).toNatClampNeg = qT g c i := o32c (by omega)
  have emk : (Int32.ofNat mk).toNatClampNeg = mk := o32c (by omega)
  have o1 : Int32.ofNat mk + Int32.ofInt 1 = Int32.ofNat (mk + 1) := o32 (by omega)
  have o2 : Int32.ofNat i + Int32.ofInt 1 = Int32.ofNat (i + 1) := o32 (by omega)
  have eO : (g.1 229 (8 * c + i)).toInt = qO g c i := rfl
  have Z := z_ends_queue M.1 (t := Int32.ofNat (qT g c i)) (op := g.1 229 (8 * c + i)) (a := g.1 230 (8 * c + i)) (by rw [ex]; exact s2) (by rw [ex]; exact s5) (by rw [ex]; exact s6) (by rw [eTn, s3]; exact hk) e
  simp only [e16, e15, e43, ex, ecn, eTn, emk, o1, o2, ownm c5 i8] at Z
  rcases Z with ⟨q1, q2, q3, q4, w⟩ | ⟨q1, q2, q3, q4, q5, w⟩ | ⟨q1, q2, q3, q4, q5, w⟩
  · have eh : h.1 (152 + 12 * c + i) 14 = Int32.ofInt 0 := Int32.toInt_inj.mp (by rw [n14]; first | decide | (split <;> first | decide | (exfalso; omega)))
    rw [eh, if_pos (show (Int32.ofInt 0).toInt = 0 by decide), n13, show (if qO g c i = 0 then g.1 230 (8 * c + i) else hb_.1 248 c) = _ by first | exact if_pos (by omega) | exact if_neg (by omega)]
    exact ⟨w, by decide, by decide⟩
  · have eh : h.1 (152 + 12 * c + i) 14 = Int32.ofInt 1 := Int32.toInt_inj.mp (by rw [n14]; first | decide | (split <;> first | decide | (exfalso; omega)))
    rw [eh, if_neg (show ¬ (Int32.ofInt 1).toInt = 0 by decide)]
    exact ⟨w, by decide, by decide⟩
  · have eh : h.1 (152 + 12 * c + i) 14 = Int32.ofInt 0 := Int32.toInt_inj.mp (by rw [n14]; first | decide | (split <;> first | decide | (exfalso; omega)))
    rw [eh, if_pos (show (Int32.ofInt 0).toInt = 0 by decide), n13, show (if qO g c i = 0 then g.1 230 (8 * c + i) else hb_.1 248 c) = _ by first | exact if_pos (by omega) | exact if_neg (by omega)]
    exact ⟨w, by decide, by decide⟩

theorem ends_counter {g h hb_ : Hp} {st c i mk d : Nat} {r : Option Value × Hp × Nat} (G : GS g) (M : SM g hb_) (hc : c < qc g) (hi : i < qm g c) (hk : qK g c i = 3) (n13 : h.1 (152 + 12 * c + i) 13 = hb_.1 248 c) (n14 : (h.1 (152 + 12 * c + i) 14).toInt = 0) (hmk : mk < 80) (st9 : st < 900) (e16 : hb_.1 223 16 = Int32.ofNat mk) (e15 : hb_.1 223 15 = Int32.ofNat st) (e43 : hb_.1 243 c = Int32.ofNat i) (e : Ev d 177 (0, [some (.ref 223), some (.int (Int32.ofNat c)), some (.int (Int32.ofNat (8 * c + i))), none, none, none, none], [], hb_, fl_tot) r) : r = (none, fl_setI (fl_setI (fl_setI (fl_setI (fl_setI (fl_setI (fl_setI (fl_setI (fl_setI (fl_setI (fl_setI hb_ 235 mk (Int32.ofNat (8 * c + i))) 236 mk (Int32.ofInt 1)) 237 mk (Int32.ofNat st)) 242 (8 * c + i) (Int32.ofNat mk)) 223 16 (Int32.ofNat (mk + 1))) 239 (8 * c + i) (h.1 (152 + 12 * c + i) 14)) 238 (8 * c + i) (if (h.1 (152 + 12 * c + i) 14).toInt = 0 then h.1 (152 + 12 * c + i) 13 else Int32.ofInt 0)) 243 c (Int32.ofNat (i + 1))) 244 c (Int32.ofInt 0)) 245 c (Int32.ofInt 0)) 251 c (Int32.ofInt 0), fl_tot) ∧ 0 ≤ (h.1 (152 + 12 * c + i) 14).toInt ∧ (h.1 (152 + 12 * c + i) 14).toInt ≤ 4 := by
  have c5 := G.c5 hc
  have i8 := G.i8 hc hi
  have T6 := G.T6 hc hi
  obtain ⟨s1, s2, s3, s4, s5, s6, s7⟩ := SM.st G M hc hi
  have ex : (Int32.ofNat (8 * c + i)).toNatClampNeg = 8 * c + i := o32c (by omega)
  have ecn : (Int32.ofNat c).toNatClampNeg = c := o32c (by omega)
  have eTn : (Int32.ofNat (qT g c i)).toNatClampNeg = qT g c i := o32c (by omega)
  have emk : (Int32.ofNat mk).toNatClampNeg = mk := o32c (by omega)
  have o1 : Int32.ofNat mk + Int32.ofInt 1 = Int32.ofNat (mk + 1) := o32 (by omega)
  have o2 : Int32.ofNat i + Int32.ofInt 1 = Int32.ofNat (i + 1) := o32 (by omega)
  have eO : (g.1 229 (8 * c + i)).toInt = qO g c i := rfl
  have Z := z_ends_counter M.1 (t := Int32.ofNat (qT g c i)) (op := g.1 229 (8 * c + i)) (a := g.1 230 (8 * c + i)) (by rw [ex]; exact s2) (by rw [ex]; exact s5) (by rw [ex]; exact s6) (by rw [eTn, s3]; exact hk) e
  simp only [e16, e15, e43, ex, ecn, eTn, emk, o1, o2, ownm c5 i8] at Z
  obtain ⟨q1, q2, q3, q4, w⟩ := Z
  have eh : h.1 (152 + 12 * c + i) 14 = Int32.ofInt 0 := Int32.toInt_inj.mp (by rw [n14]; first | decide | (split <;> first | decide | (exfalso; omega)))
  rw [eh, if_pos (show (Int32.ofInt 0).toInt = 0 by decide), n13]
  exact ⟨w, by decide, by decide⟩

theorem ends_copies {g h hb_ : Hp} {st c i mk d : Nat} {r : Option Value × Hp × Nat} (G : GS g) (M : SM g hb_) (hc : c < qc g) (hi : i < qm g c) (hk : qK g c i = 4) (n13 : h.1 (152 + 12 * c + i) 13 = hb_.1 248 c) (n14 : (h.1 (152 + 12 * c + i) 14).toInt = (if (hb_.1 247 c).toInt ≠ 0 then 0 else 1)) (hmk : mk < 80) (st9 : st < 900) (e16 : hb_.1 223 16 = Int32.ofNat mk) (e15 : hb_.1 223 15 = Int32.ofNat st) (e43 : hb_.1 243 c = Int32.ofNat i) (e : Ev d 177 (0, [some (.ref 223), some (.int (Int32.ofNat c)), some (.int (Int32.ofNat (8 * c + i))), none, none, none, none], [], hb_, fl_tot) r) : r = (none, fl_setI (fl_setI (fl_setI (fl_setI (fl_setI (fl_setI (fl_setI (fl_setI (fl_setI (fl_setI (fl_setI hb_ 235 mk (Int32.ofNat (8 * c + i))) 236 mk (Int32.ofInt 1)) 237 mk (Int32.ofNat st)) 242 (8 * c + i) (Int32.ofNat mk)) 223 16 (Int32.ofNat (mk + 1))) 239 (8 * c + i) (h.1 (152 + 12 * c + i) 14)) 238 (8 * c + i) (if (h.1 (152 + 12 * c + i) 14).toInt = 0 then h.1 (152 + 12 * c + i) 13 else Int32.ofInt 0)) 243 c (Int32.ofNat (i + 1))) 244 c (Int32.ofInt 0)) 245 c (Int32.ofInt 0)) 251 c (Int32.ofInt 0), fl_tot) ∧ 0 ≤ (h.1 (152 + 12 * c + i) 14).toInt ∧ (h.1 (152 + 12 * c + i) 14).toInt ≤ 4 := by
  have c5 := G.c5 hc
  have i8 := G.i8 hc hi
  have T6 := G.T6 hc hi
  obtain ⟨s1, s2, s3, s4, s5, s6, s7⟩ := SM.st G M hc hi
  have ex : (Int32.ofNat (8 * c + i)).toNatClampNeg = 8 * c + i := o32c (by omega)
  have ecn : (Int32.ofNat c).toNatClampNeg = c := o32c (by omega)
  have eTn : (Int32.ofNat (qT g c i)).toNatClampNeg = qT g c i := o32c (by omega)
  have emk : (Int32.ofNat mk).toNatClampNeg = mk := o32c (by omega)
  have o1 : Int32.ofNat mk + Int32.ofInt 1 = Int32.ofNat (mk + 1) := o32 (by omega)
  have o2 : Int32.ofNat i + Int32.ofInt 1 = Int32.ofNat (i + 1) := o32 (by omega)
  have eO : (g.1 229 (8 * c + i)).toInt = qO g c i := rfl
  have Z := z_ends_copies M.1 (t := Int32.ofNat (qT g c i)) (op := g.1 229 (8 * c + i)) (a := g.1 230 (8 * c + i)) (by rw [ex]; exact s2) (by rw [ex]; exact s5) (by rw [ex]; exact s6) (by rw [eTn, s3]; exact hk) e
  simp only [e16, e15, e43, ex, ecn, eTn, emk, o1, o2, ownm c5 i8] at Z
  rcases Z with ⟨q1, q2, q3, q4, q5, q6, w⟩ | ⟨q1, q2, q3, q4, q5, q6, w⟩
  · have eh : h.1 (152 + 12 * c + i) 14 = Int32.ofInt 1 := Int32.toInt_inj.mp (by rw [n14]; first | decide | (split <;> first | decide | (exfalso; omega)))
    rw [eh, if_neg (show ¬ (Int32.ofInt 1).toInt = 0 by decide)]
    exact ⟨w, by decide, by decide⟩
  · have eh : h.1 (152 + 12 * c + i) 14 = Int32.ofInt 0 := Int32.toInt_inj.mp (by rw [n14]; first | decide | (split <;> first | decide | (exfalso; omega)))
    rw [eh, if_pos (show (Int32.ofInt 0).toInt = 0 by decide), n13]
    exact ⟨w, by decide, by decide⟩

theorem ends_once {g h hb_ : Hp} {st c i mk d : Nat} {r : Option Value × Hp × Nat} (G : GS g) (M : SM g hb_) (hc : c < qc g) (hi : i < qm g c) (hk : qK g c i = 5) (e51 : (hb_.1 251 c).toInt = 0 ∨ (hb_.1 251 c).toInt = 1) (n13 : ((hb_.1 251 c).toInt ≠ 0 → h.1 (152 + 12 * c + i) 13 = hb_.1 248 c) ∧ ((hb_.1 251 c).toInt = 0 → (hb_.1 250 c).toInt = 0 → h.1 (152 + 12 * c + i) 13 = Int32.ofInt (1000 * (c + 1) + i))) (n14 : (h.1 (152 + 12 * c + i) 14).toInt = (if (hb_.1 251 c).toInt = 0 ∧ (hb_.1 250 c).toInt ≠ 0 then 3 else 0)) (hmk : mk < 80) (st9 : st < 900) (e16 : hb_.1 223 16 = Int32.ofNat mk) (e15 : hb_.1 223 15 = Int32.ofNat st) (e43 : hb_.1 243 c = Int32.ofNat i) (e : Ev d 177 (0, [some (.ref 223), some (.int (Int32.ofNat c)), some (.int (Int32.ofNat (8 * c + i))), none, none, none, none], [], hb_, fl_tot) r) : r = (none, fl_setI (fl_setI (fl_setI (fl_setI (fl_setI (fl_setI (fl_setI (fl_setI (fl_setI (fl_setI (fl_setI hb_ 235 mk (Int32.ofNat (8 * c + i))) 236 mk (Int32.ofInt 1)) 237 mk (Int32.ofNat st)) 242 (8 * c + i) (Int32.ofNat mk)) 223 16 (Int32.ofNat (mk + 1))) 239 (8 * c + i) (h.1 (152 + 12 * c + i) 14)) 238 (8 * c + i) (if (h.1 (152 + 12 * c + i) 14).toInt = 0 then h.1 (152 + 12 * c + i) 13 else Int32.ofInt 0)) 243 c (Int32.ofNat (i + 1))) 244 c (Int32.ofInt 0)) 245 c (Int32.ofInt 0)) 251 c (Int32.ofInt 0), fl_tot) ∧ 0 ≤ (h.1 (152 + 12 * c + i) 14).toInt ∧ (h.1 (152 + 12 * c + i) 14).toInt ≤ 4 := by
  have c5 := G.c5 hc
  have i8 := G.i8 hc hi
  have T6 := G.T6 hc hi
  obtain ⟨s1, s2, s3, s4, s5, s6, s7⟩ := SM.st G M hc hi
  have ex : (Int32.ofNat (8 * c + i)).toNatClampNeg = 8 * c + i := o32c (by omega)
  have ecn : (Int32.ofNat c).toNatClampNeg = c := o32c (by omega)
  have eTn : (Int32.ofNat (qT g c i)).toNatClampNeg = qT g c i := o32c (by omega)
  have emk : (Int32.ofNat mk).toNatClampNeg = mk := o32c (by omega)
  have o1 : Int32.ofNat mk + Int32.ofInt 1 = Int32.ofNat (mk + 1) := o32 (by omega)
  have o2 : Int32.ofNat i + Int32.ofInt 1 = Int32.ofNat (i + 1) := o32 (by omega)
  have eO : (g.1 229 (8 * c + i)).toInt = qO g c i := rfl
  have Z := z_ends_once M.1 (t := Int32.ofNat (qT g c i)) (op := g.1 229 (8 * c + i)) (a := g.1 230 (8 * c + i)) (by rw [ex]; exact s2) (by rw [ex]; exact s5) (by rw [ex]; exact s6) (by rw [eTn, s3]; exact hk) e
  simp only [e16, e15, e43, ex, ecn, eTn, emk, o1, o2, ownm c5 i8] at Z
  rcases Z with ⟨q1, q2, q3, q4, q5, q6, q7, w⟩ | ⟨q1, q2, q3, q4, q5, q6, q7, q8, w⟩ | ⟨q1, q2, q3, q4, q5, q6, q7, q8, w⟩
  · have eh : h.1 (152 + 12 * c + i) 14 = Int32.ofInt 0 := Int32.toInt_inj.mp (by rw [n14]; first | decide | (split <;> first | decide | (exfalso; omega)))
    rw [eh, if_pos (show (Int32.ofInt 0).toInt = 0 by decide), show h.1 (152 + 12 * c + i) 13 = hb_.1 248 c from n13.1 q6]
    exact ⟨w, by decide, by decide⟩
  · have eh : h.1 (152 + 12 * c + i) 14 = Int32.ofInt 0 := Int32.toInt_inj.mp (by rw [n14]; first | decide | (split <;> first | decide | (exfalso; omega)))
    rw [eh, if_pos (show (Int32.ofInt 0).toInt = 0 by decide), n13.2 q6 q7]
    exact ⟨w, by decide, by decide⟩
  · have eh : h.1 (152 + 12 * c + i) 14 = Int32.ofInt 3 := Int32.toInt_inj.mp (by rw [n14]; first | decide | (split <;> first | decide | (exfalso; omega)))
    rw [eh, if_neg (show ¬ (Int32.ofInt 3).toInt = 0 by decide)]
    exact ⟨w, by decide, by decide⟩

theorem ends_deque {g h hb_ : Hp} {st c i mk d : Nat} {r : Option Value × Hp × Nat} (G : GS g) (M : SM g hb_) (hc : c < qc g) (hi : i < qm g c) (hk : qK g c i = 2) (n13 : (hb_.1 249 c).toInt = 0 → h.1 (152 + 12 * c + i) 13 = (if qO g c i < 2 then g.1 230 (8 * c + i) else if qO g c i = 4 then Int32.ofInt 0 else hb_.1 248 c)) (n14 : (h.1 (152 + 12 * c + i) 14).toInt = (if (hb_.1 249 c).toInt ≠ 0 then 2 else 0)) (hmk : mk < 80) (st9 : st < 900) (e16 : hb_.1 223 16 = Int32.ofNat mk) (e15 : hb_.1 223 15 = Int32.ofNat st) (e43 : hb_.1 243 c = Int32.ofNat i) (e : Ev d 177 (0, [some (.ref 223), some (.int (Int32.ofNat c)), some (.int (Int32.ofNat (8 * c + i))), none, none, none, none], [], hb_, fl_tot) r) : r = (none, fl_setI (fl_setI (fl_setI (fl_setI (fl_setI (fl_setI (fl_setI (fl_setI (fl_setI (fl_setI (fl_setI hb_ 235 mk (Int32.ofNat (8 * c + i))) 236 mk (Int32.ofInt 1)) 237 mk (Int32.ofNat st)) 242 (8 * c + i) (Int32.ofNat mk)) 223 16 (Int32.ofNat (mk + 1))) 239 (8 * c + i) (h.1 (152 + 12 * c + i) 14)) 238 (8 * c + i) (if (h.1 (152 + 12 * c + i) 14).toInt = 0 then h.1 (152 + 12 * c + i) 13 else Int32.ofInt 0)) 243 c (Int32.ofNat (i + 1))) 244 c (Int32.ofInt 0)) 245 c (Int32.ofInt 0)) 251 c (Int32.ofInt 0), fl_tot) ∧ 0 ≤ (h.1 (152 + 12 * c + i) 14).toInt ∧ (h.1 (152 + 12 * c + i) 14).toInt ≤ 4 := by
  have c5 := G.c5 hc
  have i8 := G.i8 hc hi
  have T6 := G.T6 hc hi
  obtain ⟨s1, s2, s3, s4, s5, s6, s7⟩ := SM.st G M hc hi
  have ex : (Int32.ofNat (8 * c + i)).toNatClampNeg = 8 * c + i := o32c (by omega)
  have ecn : (Int32.ofNat c).toNatClampNeg = c := o32c (by omega)
  have eTn : (Int32.ofNat (qT g c i)).toNatClampNeg = qT g c i := o32c (by omega)
  have emk : (Int32.ofNat mk).toNatClampNeg = mk := o32c (by omega)
  have o1 : Int32.ofNat mk + Int32.ofInt 1 = Int32.ofNat (mk + 1) := o32 (by omega)
  have o2 : Int32.ofNat i + Int32.ofInt 1 = Int32.ofNat (i + 1) := o32 (by omega)
  have eO : (g.1 229 (8 * c + i)).toInt = qO g c i := rfl
  have Z := z_ends_deque M.1 (t := Int32.ofNat (qT g c i)) (op := g.1 229 (8 * c + i)) (a := g.1 230 (8 * c + i)) (by rw [ex]; exact s2) (by rw [ex]; exact s5) (by rw [ex]; exact s6) (by rw [eTn, s3]; exact hk) e
  simp only [e16, e15, e43, ex, ecn, eTn, emk, o1, o2, ownm c5 i8] at Z
  rcases Z with ⟨q1, q2, q3, q4, q5, q6, w⟩ | ⟨q1, q2, q3, q4, q5, q6, w⟩ | ⟨q1, q2, q3, q4, q5, w⟩ | ⟨q1, q2, q3, q4, q5, q6, w⟩ | ⟨q1, q2, q3, q4, q5, q6, w⟩ | ⟨q1, q2, q3, q4, q5, w⟩
  · have eh : h.1 (152 + 12 * c + i) 14 = Int32.ofInt 0 := Int32.toInt_inj.mp (by rw [n14]; first | decide | (split <;> first | decide | (exfalso; omega)))
    rw [eh, if_pos (show (Int32.ofInt 0).toInt = 0 by decide), show h.1 (152 + 12 * c + i) 13 = hb_.1 248 c by rw [n13 q4, if_neg (by omega), if_neg (by omega)]]
    exact ⟨w, by decide, by decide⟩
  · have eh : h.1 (152 + 12 * c + i) 14 = Int32.ofInt 0 := Int32.toInt_inj.mp (by rw [n14]; first | decide | (split <;> first | decide | (exfalso; omega)))
    rw [eh, if_pos (show (Int32.ofInt 0).toInt = 0 by decide), show h.1 (152 + 12 * c + i) 13 = Int32.ofInt 0 by rw [n13 q4, if_neg (by omega), if_pos (by omega)]]
    exact ⟨w, by decide, by decide⟩
  · have eh : h.1 (152 + 12 * c + i) 14 = Int32.ofInt 0 := Int32.toInt_inj.mp (by rw [n14]; first | decide | (split <;> first | decide | (exfalso; omega)))
    rw [eh, if_pos (show (Int32.ofInt 0).toInt = 0 by decide), show h.1 (152 + 12 * c + i) 13 = g.1 230 (8 * c + i) by rw [n13 q4, if_pos (by omega)]]
    exact ⟨w, by decide, by decide⟩
  · have eh : h.1 (152 + 12 * c + i) 14 = Int32.ofInt 2 := Int32.toInt_inj.mp (by rw [n14]; first | decide | (split <;> first | decide | (exfalso; omega)))
    rw [eh, if_neg (show ¬ (Int32.ofInt 2).toInt = 0 by decide)]
    exact ⟨w, by decide, by decide⟩
  · have eh : h.1 (152 + 12 * c + i) 14 = Int32.ofInt 2 := Int32.toInt_inj.mp (by rw [n14]; first | decide | (split <;> first | decide | (exfalso; omega)))
    rw [eh, if_neg (show ¬ (Int32.ofInt 2).toInt = 0 by decide)]
    exact ⟨w, by decide, by decide⟩
  · have eh : h.1 (152 + 12 * c + i) 14 = Int32.ofInt 2 := Int32.toInt_inj.mp (by rw [n14]; first | decide | (split <;> first | decide | (exfalso; omega)))
    rw [eh, if_neg (show ¬ (Int32.ofInt 2).toInt = 0 by decide)]
    exact ⟨w, by decide, by decide⟩
