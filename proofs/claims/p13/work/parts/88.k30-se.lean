
set_option maxRecDepth 20000
/-! THE CLASS: acts begin anew; a run's begin on both sides -/
theorem x_stepsOf {g h : Hp} {c i d : Nat} {r : Option Value × Hp × Nat} (G : GS g) (X : SX g h) (hc : c < qc g) (hi : i < qm g c) (e : Ev d 32 (0, [some (.ref (4 + 24 * qT g c i)), some (.int (g.1 229 (8 * c + i))), none], [], h, fl_tot) r) : r = (some (.ref (1000 + qJ g c i)), h, fl_tot) := by
  obtain ⟨eF, eK⟩ := cF G X hc hi
  have hk := G.k hc hi
  have eO : (g.1 229 (8 * c + i)).toInt = qO g c i := rfl
  rcases y_stepsOf (i := 0) (a := Int32.ofInt 0) (b := Int32.ofInt 0) (X.sq (G.c5 hc)) (G.T6 hc hi) e with ⟨q1, q2, q3, w⟩ | ⟨q1, q2, q3, w⟩ | ⟨q1, q2, q3, w⟩ | ⟨q1, q2, q3, q4, w⟩ | ⟨q1, q2, q3, q4, q5, q6, w⟩ | ⟨q1, q2, q3, q4, q5, q6, w⟩ | ⟨q1, q2, q3, q4, q5, q6, q7, w⟩ | ⟨q1, q2, q3, q4, q5, q6, q7, q8, w⟩ | ⟨q1, q2, q3, q4, q5, q6, q7, q8, w⟩ | ⟨q1, q2, q3, q4, q5, q6, q7, w⟩ | ⟨q1, q2, q3, q4, q5, q6, q7, w⟩ | ⟨q1, q2, q3, w⟩ | ⟨q1, q2, q3, w⟩ | ⟨q1, q2, q3, w⟩ | ⟨q1, q2, q3, q4, w⟩ | ⟨q1, q2, q3, q4, q5, q6, w⟩ | ⟨q1, q2, q3, q4, q5, q6, w⟩ | ⟨q1, q2, q3, q4, q5, q6, q7, w⟩ | ⟨q1, q2, q3, q4, q5, q6, q7, q8, w⟩ | ⟨q1, q2, q3, q4, q5, q6, q7, q8, w⟩ | ⟨q1, q2, q3, q4, q5, q6, q7, w⟩ | ⟨q1, q2, q3, q4, q5, q6, q7, w⟩
  · rw [show qJ g c i = 3 by unfold qJ stabJ; (repeat' split) <;> omega]
    exact w
  · rw [show qJ g c i = 1 by unfold qJ stabJ; (repeat' split) <;> omega]
    exact w
  · rw [show qJ g c i = 3 by unfold qJ stabJ; (repeat' split) <;> omega]
    exact w
  · rw [show qJ g c i = 5 by unfold qJ stabJ; (repeat' split) <;> omega]
    exact w
  · rw [show qJ g c i = 3 by unfold qJ stabJ; (repeat' split) <;> omega]
    exact w
  · rw [show qJ g c i = 6 by unfold qJ stabJ; (repeat' split) <;> omega]
    exact w
  · rw [show qJ g c i = 0 by unfold qJ stabJ; (repeat' split) <;> omega]
    exact w
  · rw [show qJ g c i = 3 by unfold qJ stabJ; (repeat' split) <;> omega]
    exact w
  · rw [show qJ g c i = 0 by unfold qJ stabJ; (repeat' split) <;> omega]
    exact w
  · rw [show qJ g c i = 8 by unfold qJ stabJ; (repeat' split) <;> omega]
    exact w
  · rw [show qJ g c i = 3 by unfold qJ stabJ; (repeat' split) <;> omega]
    exact w
  · rw [show qJ g c i = 2 by unfold qJ stabJ; (repeat' split) <;> omega]
    exact w
  · rw [show qJ g c i = 1 by unfold qJ stabJ; (repeat' split) <;> omega]
    exact w
  · rw [show qJ g c i = 2 by unfold qJ stabJ; (repeat' split) <;> omega]
    exact w
  · rw [show qJ g c i = 4 by unfold qJ stabJ; (repeat' split) <;> omega]
    exact w
  · rw [show qJ g c i = 2 by unfold qJ stabJ; (repeat' split) <;> omega]
    exact w
  · rw [show qJ g c i = 6 by unfold qJ stabJ; (repeat' split) <;> omega]
    exact w
  · rw [show qJ g c i = 0 by unfold qJ stabJ; (repeat' split) <;> omega]
    exact w
  · rw [show qJ g c i = 2 by unfold qJ stabJ; (repeat' split) <;> omega]
    exact w
  · rw [show qJ g c i = 0 by unfold qJ stabJ; (repeat' split) <;> omega]
    exact w
  · rw [show qJ g c i = 7 by unfold qJ stabJ; (repeat' split) <;> omega]
    exact w
  · rw [show qJ g c i = 2 by unfold qJ stabJ; (repeat' split) <;> omega]
    exact w
theorem and3 {a : Nat} (h : a < 32) : (Int32.ofNat a &&& Int32.ofInt 3) = Int32.ofInt ((a : Int) % 4) := of_decide_eq_true (List.all_eq_true.mp (show ((List.range 32).all fun a => decide ((Int32.ofNat a &&& Int32.ofInt 3) = Int32.ofInt ((a : Int) % 4))) = true by decide +kernel) a (List.mem_range.mpr h))
theorem x_monitorOf {g h : Hp} {c i d : Nat} {r : Option Value × Hp × Nat} (G : GS g) (X : SX g h) (hc : c < qc g) (hi : i < qm g c) (e : Ev d 33 (0, [some (.ref (4 + 24 * qT g c i)), some (.ref (152 + 12 * c + i))], [], h, fl_tot) r) : r = (some (.int (Int32.ofInt (monI (qK g c i) (qO g c i) (qA g c i) c))), h, fl_tot) := by
  obtain ⟨eF, eK⟩ := cF G X hc hi
  have hk := G.k hc hi
  have c5 := G.c5 hc
  have eO : (g.1 229 (8 * c + i)).toInt = qO g c i := rfl
  rcases y_monitorOf (X.sq c5) (G.T6 hc hi) c5 (G.i8 hc hi) (X.ak G hc hi) e with ⟨q1, w⟩ | ⟨q1, q2, q3, w⟩ | ⟨q1, q2, q3, w⟩ | ⟨q1, q2, q3, w⟩ | ⟨q1, q2, q3, q4, q5, w⟩ | ⟨q1, q2, q3, q4, q5, w⟩ | ⟨q1, q2, q3, q4, w⟩
  · obtain ⟨a, a32, ea, eA⟩ := G.key hc hi (Or.inl (by omega))
    rw [show monI (qK g c i) (qO g c i) (qA g c i) c = (a : Int) % 4 by unfold monI; rw [if_pos (by omega), eA], ← and3 a32, ← ea]
    exact w
  · rw [show monI (qK g c i) (qO g c i) (qA g c i) c = 0 by unfold monI; (repeat' split) <;> omega]
    exact w
  · rw [show monI (qK g c i) (qO g c i) (qA g c i) c = 1 by unfold monI; (repeat' split) <;> omega]
    exact w
  · rw [show monI (qK g c i) (qO g c i) (qA g c i) c = 0 by unfold monI; (repeat' split) <;> omega]
    exact w
  · rw [show monI (qK g c i) (qO g c i) (qA g c i) c = (c : Int) % 4 by unfold monI; (repeat' split) <;> omega, ← and3 (by omega)]
    exact w
  · rw [show monI (qK g c i) (qO g c i) (qA g c i) c = -1 by unfold monI; (repeat' split) <;> omega]
    exact w
  · rw [show monI (qK g c i) (qO g c i) (qA g c i) c = 0 by unfold monI; (repeat' split) <;> omega]
    exact w
def actH (h : Hp) (c i js : Nat) (mo : Int32) : Hp := fl_setI (fl_setI (fl_setI (fl_setI (fl_setI (fl_setI (fl_setI (fl_setI (fl_setR h (152 + 12 * c + i) 7 (some js)) (152 + 12 * c + i) 8 mo) (152 + 12 * c + i) 9 (Int32.ofInt 0)) (152 + 12 * c + i) 10 (Int32.ofInt 0)) (152 + 12 * c + i) 12 (Int32.ofInt 0)) (152 + 12 * c + i) 13 (Int32.ofInt 0)) (152 + 12 * c + i) 14 (Int32.ofInt 0)) (152 + 12 * c + i) 15 (Int32.ofInt 6)) (152 + 12 * c + i) 16 (Int32.ofInt 0)
/-- an act that has begun anew -/
def ACv (g h : Hp) (c i : Nat) : Prop := h.2 (152 + 12 * c + i) 7 = some (1000 + qJ g c i) ∧ h.1 (152 + 12 * c + i) 8 = Int32.ofInt (monI (qK g c i) (qO g c i) (qA g c i) c) ∧ h.1 (152 + 12 * c + i) 9 = Int32.ofInt 0 ∧ h.1 (152 + 12 * c + i) 10 = Int32.ofInt 0 ∧ h.1 (152 + 12 * c + i) 12 = Int32.ofInt 0 ∧ h.1 (152 + 12 * c + i) 15 = Int32.ofInt 6 ∧ h.1 (152 + 12 * c + i) 16 = Int32.ofInt 0
theorem actH_1 {h : Hp} {c i js r k : Nat} {mo : Int32} (z : ¬ (r = (152 + 12 * c + i) ∧ 7 ≤ k)) : (actH h c i js mo).1 r k = h.1 r k := by
  unfold actH
  simp (disch := omega) only [setI_no]
  rfl
theorem actH_2 {h : Hp} {c i js r k : Nat} {mo : Int32} (z : ¬ (r = (152 + 12 * c + i) ∧ k = 7)) : (actH h c i js mo).2 r k = h.2 r k := by
  show (fl_setR h (152 + 12 * c + i) 7 (some js)).2 r k = _
  rw [rR, if_neg z]
theorem actH_v {g h : Hp} {c i : Nat} : ACv g (actH h c i (1000 + qJ g c i) (Int32.ofInt (monI (qK g c i) (qO g c i) (qA g c i) c))) c i := by
  refine ⟨?_, ?_, ?_, ?_, ?_, ?_, ?_⟩
  · show (fl_setR h (152 + 12 * c + i) 7 (some (1000 + qJ g c i))).2 (152 + 12 * c + i) 7 = _
    rw [rR, if_pos ⟨rfl, rfl⟩]
  all_goals
    unfold actH
    simp (disch := omega) only [setI_at, setI_no]
theorem actH_X {g h : Hp} {c i js : Nat} {mo : Int32} (G : GS g) (hc : c < 5) (hi : i < 8) (X : SX g h) : SX g (actH h c i js mo) := by
  have X1 : SX g (fl_setR h (152 + 12 * c + i) 7 (some js)) := SX.fx G (c := c) (i := i) (t := 0) hc hi (by decide) ((KFX.refl c i 0 h).setR (some js)) ⟨js, by rw [rR, if_pos ⟨rfl, rfl⟩]⟩ X
  refine SX.low G (h := fl_setR h (152 + 12 * c + i) 7 (some js)) rfl (fun r j z => ?_) X1
  unfold actH
  simp (disch := omega) only [setI_no]
theorem x_act {g h : Hp} {c i d : Nat} {r : Option Value × Hp × Nat} (G : GS g) (X : SX g h) (hc : c < qc g) (hi : i < qm g c) (e : Ev d 31 (0, [some (.ref 1), some (.ref (152 + 12 * c + i)), none], [], h, fl_tot) r) : r = (none, actH h c i (1000 + qJ g c i) (Int32.ofInt (monI (qK g c i) (qO g c i) (qA g c i) c)), fl_tot) := by
  have c5 := G.c5 hc
  have i8 := G.i8 hc hi
  have T6 := G.T6 hc hi
  have hT' := G.T hc hi
  have htt : (h.1 1 2).toInt = qt g := by rw [X.2.1.1]; exact G.1.2.1
  obtain ⟨-, -, e⟩ := y_ba_1 (nk := 0) (X.sq c5) T6 c5 i8 (X.ak G hc hi) (by rw [htt]; omega) e
  obtain ⟨d3, v3, h3, n3, z3, ec3, e⟩ := b_call (m2 := 32) (k := 1) (nL := 3) (as := [.ref (4 + 24 * qT g c i), .int (g.1 229 (8 * c + i))]) (rest := [.ref (152 + 12 * c + i)]) (L := [some (.ref (4 + 24 * qT g c i)), some (.int (g.1 229 (8 * c + i))), none]) e (show fl_code 31 28 = some (18, [((32 : Nat) : Int), ((1 : Nat) : Int)], 31) by decide +kernel) rfl (by decide +kernel) rfl rfl rfl
  obtain ⟨w1, w2, w3⟩ := tri (x_stepsOf G X hc hi ec3)
  rw [w1, w2, w3] at e
  have e : Ev d 31 (31, [some (.ref 1), some (.ref (152 + 12 * c + i)), some (.ref (4 + 24 * qT g c i))], [.ref (1000 + qJ g c i), .ref (152 + 12 * c + i)], h, fl_tot) r := e
  have e : Ev d 31 (33, [some (.ref 1), some (.ref (152 + 12 * c + i)), some (.ref (4 + 24 * qT g c i))], [.ref (152 + 12 * c + i), .ref (4 + 24 * qT g c i), .ref (1000 + qJ g c i), .ref (152 + 12 * c + i)], h, fl_tot) r := e.bk [((2, [2, 2], 32), 0), ((2, [1, 2], 33), 0)] [] (by decide +kernel) trivial rfl
  obtain ⟨d4, v4, h4, n4, z4, ec4, e⟩ := b_call (m2 := 33) (k := 1) (nL := 2) (as := [.ref (4 + 24 * qT g c i), .ref (152 + 12 * c + i)]) (rest := [.ref (1000 + qJ g c i), .ref (152 + 12 * c + i)]) (L := [some (.ref (4 + 24 * qT g c i)), some (.ref (152 + 12 * c + i))]) e (show fl_code 31 33 = some (18, [((33 : Nat) : Int), ((1 : Nat) : Int)], 36) by decide +kernel) rfl (by decide +kernel) rfl rfl rfl
  obtain ⟨w1, w2, w3⟩ := tri (x_monitorOf G X hc hi ec4)
  rw [w1, w2, w3] at e
  have e : Ev d 31 (36, [some (.ref 1), some (.ref (152 + 12 * c + i)), some (.ref (4 + 24 * qT g c i))], [.int (Int32.ofInt (monI (qK g c i) (qO g c i) (qA g c i) c)), .ref (1000 + qJ g c i), .ref (152 + 12 * c + i)], h, fl_tot) r := e
  obtain ⟨d5, v5, h5, n5, z5, ec5, e⟩ := b_call (m2 := 34) (k := 2) (nL := 3) (as := [.ref (152 + 12 * c + i), .ref (1000 + qJ g c i), .int (Int32.ofInt (monI (qK g c i) (qO g c i) (qA g c i) c))]) (rest := []) (L := [some (.ref (152 + 12 * c + i)), some (.ref (1000 + qJ g c i)), some (.int (Int32.ofInt (monI (qK g c i) (qO g c i) (qA g c i) c)))]) e (show fl_code 31 36 = some (18, [((34 : Nat) : Int), ((2 : Nat) : Int)], 39) by decide +kernel) rfl (by decide +kernel) rfl rfl rfl
  obtain ⟨w1, w2, w3⟩ := tri (y_actBegin X.1 c5 i8 ec5)
  rw [w1, w2, w3] at e
  exact b21 e (show fl_code 31 39 = some (21, [], 40) by decide +kernel)
theorem x_acts {g : Hp} (G : GS g) {d c : Nat} {r : Option Value × Hp × Nat} (hc : c < qc g) : ∀ (f : Nat) {h : Hp} {j : Nat}, SX g h → j ≤ qm g c → qm g c - j < f → Ev d 27 (49, [some (.ref 1), some (.int (Int32.ofNat c)), some (.ref (148 + 12 * c)), some (.int (Int32.ofNat j))], [], h, fl_tot) r → ∃ h' oi, SX g h' ∧ (∀ r k : Nat, ¬ (152 + 12 * c + j ≤ r ∧ r < 160 + 12 * c ∧ 7 ≤ k) → h'.1 r k = h.1 r k) ∧ (∀ r k : Nat, ¬ (152 + 12 * c + j ≤ r ∧ r < 160 + 12 * c ∧ k = 7) → h'.2 r k = h.2 r k) ∧ (∀ i : Nat, j ≤ i → i < qm g c → ACv g h' c i) ∧ Ev d 27 (79, [some (.ref 1), some (.int (Int32.ofNat c)), some (.ref (148 + 12 * c)), oi], [], h', fl_tot) r
  | 0, h, j, X, hj, hf, e => by omega
  | f + 1, h, j, X, hj, hf, e => by
    have c5 := G.c5 hc
    have m8 := G.m8 hc
    have ej := i32n (n := j) (by omega)
    have ejn : (Int32.ofNat j).toNatClampNeg = j := o32c (by omega)
    have hmm : (h.1 (148 + 12 * c) 3).toInt = qm g c := by
      rw [(X.2.2.2.2.1 c hc).1]
      exact (G.2.2 c hc).1
    have V := y_bg_i X.1 c5 e
    rw [ejn] at V
    rcases V with ⟨q, e⟩ | ⟨q, q2, e⟩ | ⟨q, q2, -, -, e⟩
    · exact ⟨h, _, X, fun _ _ _ => rfl, fun _ _ _ => rfl, fun i h1 h2 => by omega, e⟩
    · exact ⟨h, _, X, fun _ _ _ => rfl, fun _ _ _ => rfl, fun i h1 h2 => by omega, e⟩
    · obtain ⟨d3, v3, h3, n3, z3, ec3, e⟩ := b_call (m2 := 31) (k := 1) (nL := 3) (as := [.ref 1, .ref (152 + 12 * c + j)]) (rest := []) (L := [some (.ref 1), some (.ref (152 + 12 * c + j)), none]) e (show fl_code 27 70 = some (18, [((31 : Nat) : Int), ((1 : Nat) : Int)], 73) by decide +kernel) rfl (by decide +kernel) rfl rfl rfl
      obtain ⟨w1, w2, w3⟩ := tri (x_act G X hc (i := j) (by omega) ec3)
      rw [w1, w2, w3] at e
      obtain ⟨h1, eh⟩ : ∃ z, z = actH h c j (1000 + qJ g c j) (Int32.ofInt (monI (qK g c j) (qO g c j) (qA g c j) c)) := ⟨_, rfl⟩
      rw [← eh] at e
      have e : Ev d 27 (73, [some (.ref 1), some (.int (Int32.ofNat c)), some (.ref (148 + 12 * c)), some (.int (Int32.ofNat j))], [], h1, fl_tot) r := e
      have X1 : SX g h1 := by rw [eh]; exact actH_X G c5 (by omega) X
      have V1 : ACv g h1 c j := by rw [eh]; exact actH_v
      have f1 : ∀ r k : Nat, ¬ (r = 152 + 12 * c + j ∧ 7 ≤ k) → h1.1 r k = h.1 r k := fun r k z => by rw [eh]; exact actH_1 z
      have f2 : ∀ r k : Nat, ¬ (r = 152 + 12 * c + j ∧ k = 7) → h1.2 r k = h.2 r k := fun r k z => by rw [eh]; exact actH_2 z
      have e := y_bg_ii X1.1 e
      rw [o32 (by omega)] at e
      obtain ⟨h', oi, a1, a2, a3, a4, a5⟩ := x_acts G hc f (j := j + 1) X1 (by omega) (by omega) e
      refine ⟨h', oi, a1, fun r k z => (a2 r k (by omega)).trans (f1 r k (by omega)), fun r k z => (a3 r k (by omega)).trans (f2 r k (by omega)), fun i h1' h2' => ?_, a5⟩
      by_cases y : i = j
      · subst y
        obtain ⟨v1, v2, v3, v4, v5, v6, v7⟩ := V1
        exact ⟨(a3 _ _ (by omega)).trans v1, (a2 _ _ (by omega)).trans v2, (a2 _ _ (by omega)).trans v3, (a2 _ _ (by omega)).trans v4, (a2 _ _ (by omega)).trans v5, (a2 _ _ (by omega)).trans v6, (a2 _ _ (by omega)).trans v7⟩
      · exact a4 i (by omega) h2'
theorem x_clerks {g : Hp} (G : GS g) {d : Nat} {r : Option Value × Hp × Nat} : ∀ (f : Nat) {h : Hp} {k : Nat} {oc oi : Option Value}, SX g h → k ≤ qc g → qc g - k < f → Ev d 27 (27, [some (.ref 1), some (.int (Int32.ofNat k)), oc, oi], [], h, fl_tot) r → ∃ h', r = (none, h', fl_tot) ∧ SX g h' ∧ (∀ r j : Nat, ¬ (148 + 12 * k ≤ r ∧ r < 208 ∧ 4 ≤ j) → h'.1 r j = h.1 r j) ∧ (∀ r j : Nat, ¬ (148 + 12 * k ≤ r ∧ r < 208 ∧ j = 7) → h'.2 r j = h.2 r j) ∧ ∀ c : Nat, k ≤ c → c < qc g → h'.1 (148 + 12 * c) 4 = Int32.ofInt 0 ∧ ∀ i : Nat, i < qm g c → ACv g h' c i
  | 0, h, k, oc, oi, X, hk, hf, e => by omega
  | f + 1, h, k, oc, oi, X, hk, hf, e => by
    have q5 := G.1.2.2.1
    have ek := i32n (n := k) (by omega)
    have ekn : (Int32.ofNat k).toNatClampNeg = k := o32c (by omega)
    have hn : (h.1 1 3).toInt = qc g := by rw [X.2.1.2]; exact G.1.2.2.2
    have V := y_bg_c X.1 e
    rw [ekn] at V
    rcases V with ⟨q, e⟩ | ⟨q, -, -, e⟩
    · exact ⟨h, y_bg_x X.1 e, X, fun _ _ _ => rfl, fun _ _ _ => rfl, fun c h1 h2 => by omega⟩
    · have kq : k < qc g := by omega
      have X1 : SX g (fl_setI h (148 + 12 * k) 4 (Int32.ofInt 0)) := SX.low G (h := h) rfl (fun r j z => setI_no (by omega)) X
      obtain ⟨h1, oi', a1, a2, a3, a4, e⟩ := x_acts G kq (qm g k + 1) (j := 0) X1 (by omega) (by omega) e
      have m8 := G.m8 kq
      have e := y_bg_ci a1.1 e
      rw [o32 (by omega)] at e
      obtain ⟨h', b1, b2, b3, b4, b5⟩ := x_clerks G f (k := k + 1) a1 (by omega) (by omega) e
      refine ⟨h', b1, b2, fun r j z => ?_, fun r j z => ?_, fun c c1 c2 => ?_⟩
      · rw [b3 r j (by omega), a2 r j (by omega), setI_no (by omega)]
      · rw [b4 r j (by omega), a3 r j (by omega)]
        rfl
      · by_cases y : c = k
        · subst y
          refine ⟨by rw [b3 _ _ (by omega), a2 _ _ (by omega), setI_at], fun i hi => ?_⟩
          obtain ⟨v1, v2, v3, v4, v5, v6, v7⟩ := a4 i (by omega) hi
          exact ⟨(b4 _ _ (by omega)).trans v1, (b3 _ _ (by omega)).trans v2, (b3 _ _ (by omega)).trans v3, (b3 _ _ (by omega)).trans v4, (b3 _ _ (by omega)).trans v5, (b3 _ _ (by omega)).trans v6, (b3 _ _ (by omega)).trans v7⟩
        · exact b5 c (by omega) c2
/-- the class begins anew: what it comes to -/
theorem x_begins {g h : Hp} {d : Nat} {r : Option Value × Hp × Nat} (G : GS g) (X : SX g h) (hT : TInv h) (e : Ev d 27 (0, [some (.ref 1), none, none, none], [], h, fl_tot) r) : ∃ h', r = (none, h', fl_tot) ∧ TInv h' ∧ SX g h' ∧ (∀ t : Nat, t < qt g → TBv h h' t) ∧ (∀ c : Nat, c < qc g → h'.1 (148 + 12 * c) 4 = Int32.ofInt 0 ∧ ∀ i : Nat, i < qm g c → ACv g h' c i) ∧ ∀ r j : Nat, 208 ≤ r → h'.1 r j = h.1 r j := by
  have e0 := e
  have t6 := G.1.1
  have e := y_bg_0 X.1 e
  obtain ⟨h1, a1, a2, a3, a4, -, e⟩ := x_trays G (qt g + 1) (k := 0) X hT (by omega) (by omega) e
  obtain ⟨h', b1, b2, b3, b4, b5⟩ := x_clerks G (qc g + 1) (k := 0) a2 (by omega) (by omega) e
  obtain ⟨m1, d0, c0, c1, c2, c3⟩ := xcon (j := 25) (m := 27) (nL := 4) (as := [.ref 1]) (h := h) (L := [some (.ref 1), none, none, none]) (show ab_cts[25]? = some (27, 3, [(2, 2, 0)], (9, 0, 0), [4, 5, 6, 8, 9, 11, 13, 16, 18], [], []) by rfl) rfl rfl rfl hT ⟨_, _, rfl, ⟨_, rfl, (by decide +kernel)⟩, rfl⟩ (by decide +kernel) rfl
  have k := c1 _ _ e0
  rw [b1] at k
  obtain ⟨-, k2, -⟩ := tri k
  subst k2
  refine ⟨h', b1, c2, b2, fun t ht => ?_, fun c hc => b5 c (by omega) hc, fun r j hr => ?_⟩
  · have V := a4 t (by omega) ht
    obtain ⟨⟨v1, v2, v3, v4⟩, v5, v6, ⟨v7, v8, v9⟩, v10⟩ := V
    refine ⟨⟨?_, ?_, ?_, ?_⟩, fun j hj => ?_, fun m hm => ?_, ⟨?_, ?_, ?_⟩, fun z j hj => ?_⟩
    · rw [b3 _ _ (by omega)]; exact v1
    · rw [b3 _ _ (by omega)]; exact v2
    · rw [b3 _ _ (by omega)]; exact v3
    · rw [b3 _ _ (by omega)]; exact v4
    · rw [b3 _ _ (by omega)]; exact v5 j hj
    · rw [b3 _ _ (by omega)]; exact v6 m hm
    · rw [b3 _ _ (by omega)]; exact v7
    · rw [b3 _ _ (by omega)]; exact v8
    · rw [b3 _ _ (by omega)]; exact v9
    · rw [b3 _ _ (by omega)]; exact v10 z j hj
  · rw [b3 _ _ (by omega), a3.1 _ _ (by omega)]
theorem hb_z0 {j : Nat} (hj : j < 32) : hb (Int32.ofInt 0) j = false := of_decide_eq_true (List.all_eq_true.mp (show ((List.range 32).all fun j => decide (hb (Int32.ofInt 0) j = false)) = true by decide +kernel) j (List.mem_range.mpr hj))
/-- both have begun anew -/
theorem RR.zero {g h h' hm hm' : Hp} (G : GS g) (X : SX g h') (TV : ∀ t : Nat, t < qt g → TBv h h' t) (CV : ∀ c : Nat, c < qc g → h'.1 (148 + 12 * c) 4 = Int32.ofInt 0 ∧ ∀ i : Nat, i < qm g c → ACv g h' c i) (e08 : h'.1 208 4 = Int32.ofInt 0) (M : SM g hm) (B : BGN hm hm') (Tm : TInv hm') (X0 : SX g h) (st9 : ∀ t : Nat, t < qt g → (g.1 224 t).toInt = 5 → ∀ j : Nat, j < 32 → h.1 (9 + 24 * t) j = hm.1 234 (32 * t + j)) : RR g h' hm' 0 := by
  obtain ⟨m2, ⟨z15, z16, z42⟩, zf, zl, z40, z5, z24, z192, z6⟩ := B
  have t6 := G.1.1
  have M' : SM g hm' := M.low m2 (fun K j hK => by
    rcases hK with ⟨rfl, hj⟩ | ⟨h1, h2⟩
    · exact zf j (by omega) (by omega) (by omega)
    · exact zl K j (by omega) (by omega))
  have i0 : (Int32.ofInt 0).toInt = 0 := by decide
  have i1 : (Int32.ofInt (-1)).toInt = -1 := by decide
  refine ⟨⟨X, M', z15, ⟨by rw [e08, z16], fun j hj => ?_⟩, Tm⟩, fun t ht => ?_, fun c hc => ?_⟩
  · rw [z16, i0] at hj
    omega
  · obtain ⟨⟨v1, v2, v3, v4⟩, v5, v6, ⟨v7, v8, v9⟩, v10⟩ := TV t ht
    obtain ⟨x1, x2, x3, x4⟩ := z6 t (by omega)
    refine ⟨⟨fun _ j hj => ⟨?_, fun z => ?_⟩, fun _ => ⟨?_, fun j hj => ?_, ⟨?_, ?_⟩, ?_⟩, fun _ m hm4 => ?_, fun k5 => ⟨fun j hj => ⟨?_, ?_⟩, ?_, ?_⟩⟩, ⟨fun m hm4 => ?_, fun _ m hm4 => ?_⟩⟩
    · rw [v1, hb_z0 hj, (z192 (32 * t + j) (by omega)).1, i0]
      simp
    · rw [(z192 (32 * t + j) (by omega)).1, i0] at z
      exact absurd rfl z
    · rw [v3, x1]
    · rw [x1, i0] at hj
      omega
    · rw [v4, i0]; omega
    · rw [v4, i0]; omega
    · rw [v4, x2, i0]; omega
    · rw [v5 m (by omega), (z24 (4 * t + m) (by omega)).2]
    · rw [v7, hb_z0 hj, (z192 (32 * t + j) (by omega)).2.1, i0]
      simp
    · rw [v10 (by rw [(X0.2.2.1 t ht).1]; exact k5) j hj, (z192 (32 * t + j) (by omega)).2.2]
      exact st9 t ht k5 j hj
    · rw [v8, x3]
    · rw [v9, x4]
    · rw [v6 m hm4, (z24 (4 * t + m) (by omega)).1]
    · exact (z24 (4 * t + m) (by omega)).1
  · obtain ⟨a4, av⟩ := CV c hc
    have c5 := G.c5 hc
    have m8 := G.m8 hc
    obtain ⟨y1, y2, y3, y4⟩ := z5 c c5
    refine ⟨0, ⟨⟨a4, y1, Nat.zero_le _⟩, fun j hj => ?_, fun j _ hj => ?_, fun _ => y3, fun j hj => ?_⟩, fun h0 => Or.inr (Or.inl ⟨0, by have := (G.len hc h0).1; omega, ?_⟩)⟩
    · obtain ⟨w1, w2, w3, w4, w5, w6, w7⟩ := av j hj
      obtain ⟨q1, q2, q3, q4, q5⟩ := z40 (8 * c + j) (by omega)
      refine ⟨⟨⟨by rw [w6, q2], by rw [w7, q1]⟩, ?_, fun z => ?_, fun z => ?_, ?_⟩, ?_⟩
      · rw [w6, q4, i1]; decide
      · rw [q4, i1] at z; exact absurd rfl z
      · rw [q5, i1] at z; exact absurd rfl z
      · rw [q5, q2, i1]; decide
      · unfold WTS
        rw [w5, q3]
    · obtain ⟨w1, w2, w3, w4, w5, w6, w7⟩ := av j hj
      refine ⟨w2, fun _ => ⟨w1, w3, w4⟩, ?_⟩
      rw [(z40 (8 * c + j) (by omega)).2.2.2.2, i1]
    · obtain ⟨q1, q2, q3, q4, q5⟩ := z40 (8 * c + j) (by omega)
      obtain ⟨w1, w2, w3, w4, w5, w6, w7⟩ := av j hj
      unfold HOWj
      rw [q1, q2, q5]
      exact ⟨fun _ => rfl, fun _ => by decide, w2, fun z => absurd (by decide) z⟩
    · obtain ⟨w1, w2, w3, w4, w5, w6, w7⟩ := av 0 h0
      have r1 : ∀ k op : Int, ¬ (rdP k op ≤ 0) := fun k op => by unfold rdP; (repeat' split) <;> omega
      exact ⟨⟨w4, y3⟩, w3, y2, w1, y4, ⟨fun _ z => absurd z (r1 _ _), fun _ z => absurd z (r1 _ _), fun _ z => absurd z (r1 _ _), fun _ z => absurd z (r1 _ _), fun _ z => absurd z (r1 _ _), fun _ z => absurd z (r1 _ _)⟩, fun z m h4 hh => by cases hh⟩
