
set_option maxRecDepth 20000
/-! THE CLASS BEGINS ANEW -/
theorem TInv.fill {h : Hp} {a : Nat} {lo hi : Int} {v : Int32} (h1 : tia a = true) (h2 : tic a 0 lo hi = true) (b : lo ≤ v.toInt ∧ v.toInt ≤ hi) (hT : TInv h) : ∀ n : Nat, TInv (fl_fill h a n v)
  | 0 => by rw [fill_0]; exact hT
  | n + 1 => by
    rw [← fill_step]
    exact (TInv.fill h1 h2 b hT n).a _ _ _ _ h1 h2 b
theorem fill_at {h : Hp} {a n k : Nat} {v : Int32} (hk : k < n) : (fl_fill h a n v).1 a k = v := if_pos ⟨rfl, hk⟩
theorem fill_no {h : Hp} {a n r k : Nat} {v : Int32} (hk : ¬ (r = a ∧ k < n)) : (fl_fill h a n v).1 r k = h.1 r k := if_neg hk
theorem tcT : ((List.range 6).all fun t => tia (6 + 24 * t) && tic (6 + 24 * t) 0 (-2147483648) 2147483647 && tia (8 + 24 * t) && tic (8 + 24 * t) 0 (-2147483648) 2147483647 && (List.range 5).all (fun k => k == 0 || tic (5 + 24 * t) k (-2147483648) 2147483647) && tic (4 + 24 * t) 9 (-2147483648) 2147483647 && tic (4 + 24 * t) 10 (-2147483648) 2147483647 && tic (4 + 24 * t) 11 (-2147483648) 2147483647) = true := by decide +kernel
theorem full32 (v : Int32) : (-2147483648 : Int) ≤ v.toInt ∧ v.toInt ≤ 2147483647 := ⟨Int32.le_toInt v, Int32.toInt_le v⟩
/-- a tray's own begin, before its stripes -/
def tbH (h : Hp) (t : Nat) : Hp := fl_setI (fl_setI (fl_setI (fl_fill (fl_setI (fl_setI (fl_setI (fl_setI (fl_fill h (6 + 24 * t) 64 (Int32.ofInt 0)) (5 + 24 * t) 1 (Int32.ofInt 0)) (5 + 24 * t) 2 (Int32.ofInt 0)) (5 + 24 * t) 3 (Int32.ofInt 0)) (5 + 24 * t) 4 (Int32.ofInt 0)) (8 + 24 * t) 4 (Int32.ofInt (-1))) (4 + 24 * t) 9 (Int32.ofInt 0)) (4 + 24 * t) 10 (Int32.ofInt 0)) (4 + 24 * t) 11 (Int32.ofInt 0)
theorem tbH_T {h : Hp} {t : Nat} (hT : TInv h) (ht : t < 6) : TInv (tbH h t) := by
  have K := List.all_eq_true.mp tcT t (List.mem_range.mpr ht)
  simp only [Bool.and_eq_true] at K
  obtain ⟨⟨⟨⟨⟨⟨⟨k1, k2⟩, k3⟩, k4⟩, k5⟩, k6⟩, k7⟩, k8⟩ := K
  have c : ∀ k : Nat, k < 5 → k ≠ 0 → tic (5 + 24 * t) k (-2147483648) 2147483647 = true := fun k h1 h2 => by
    have := List.all_eq_true.mp k5 k (List.mem_range.mpr h1)
    rw [Bool.or_eq_true] at this
    rcases this with z | z
    · exact absurd (by simpa using z) h2
    · exact z
  unfold tbH
  have a := TInv.fill (v := Int32.ofInt 0) k1 k2 (full32 _) hT 64
  have a := (((a.w (c 1 (by decide) (by decide)) (full32 (Int32.ofInt 0))).w (c 2 (by decide) (by decide)) (full32 (Int32.ofInt 0))).w (c 3 (by decide) (by decide)) (full32 (Int32.ofInt 0))).w (c 4 (by decide) (by decide)) (full32 (Int32.ofInt 0))
  exact (((TInv.fill (v := Int32.ofInt (-1)) k3 k4 (full32 _) a 4).w k6 (full32 (Int32.ofInt 0))).w k7 (full32 (Int32.ofInt 0))).w k8 (full32 (Int32.ofInt 0))
theorem x_str {h : Hp} {t s : Nat} (hT : TInv h) (ht : t < 6) (hs : s < 4) : ∃ m1, (∀ (d : Nat) (r : Option Value × Hp × Nat), Ev d 30 (0, [some (.ref (12 + 24 * t + 4 * s))], [], h, fl_tot) r → r = (none, m1, fl_tot)) ∧ TInv m1 ∧ OPm h m1 := by
  obtain ⟨m1, d0, e0, e1, e2, e3⟩ := xcon (j := 19) (m := 30) (nL := 1) (as := [.ref (12 + 24 * t + 4 * s)]) (h := h) (L := [some (.ref (12 + 24 * t + 4 * s))]) (show ab_cts[19]? = some (30, 1, [(2, 8, 0)], (9, 0, 0), [8, 9], [], []) by rfl) rfl rfl rfl hT ⟨_, _, rfl, ⟨_, rfl, kd_stripe ht hs⟩, rfl⟩ (by decide +kernel) rfl
  exact ⟨m1, e1, e2, OPm.of (S := [30, 10]) (by decide +kernel) (by decide) e0 (fun r hr => e3 r (fun z => hr (by simp only [List.mem_cons, List.not_mem_nil, or_false] at z ⊢; rcases z with z | z <;> simp [z])))⟩
theorem OPm.refl (h : Hp) : OPm h h := ⟨fun _ _ _ => rfl, fun _ _ _ => rfl⟩
theorem OPm.trans {a b c : Hp} (x : OPm a b) (y : OPm b c) : OPm a c := ⟨fun r j z => (y.1 r j z).trans (x.1 r j z), fun r j z => (y.2 r j z).trans (x.2 r j z)⟩
theorem SH.opm {a b : Hp} (x : OPm a b) (S : SH a.2) : SH b.2 := SH.fx (c0 := 0) (i0 := 0) (t0 := 0) (by decide) (by decide) (by decide) (fun r j _ z => x.2 r j z) S
theorem x_strs {d t : Nat} {r : Option Value × Hp × Nat} (ht : t < 6) : ∀ (f : Nat) {h : Hp} {k : Nat}, SH h.2 → TInv h → k ≤ 4 → 4 - k < f → Ev d 28 (63, [some (.ref (4 + 24 * t)), some (.int (Int32.ofNat k))], [], h, fl_tot) r → ∃ h', r = (none, h', fl_tot) ∧ TInv h' ∧ OPm h h'
  | 0, h, k, S, hT, hk, hf, e => by omega
  | f + 1, h, k, S, hT, hk, hf, e => by
    have ek := i32n (n := k) (by omega)
    have ekn : (Int32.ofNat k).toNatClampNeg = k := o32c (by omega)
    have V := y_st_b S ht e
    rw [ekn] at V
    rcases V with ⟨q, e⟩ | ⟨q, -, -, e⟩
    · exact ⟨h, y_st_x S ht e, hT, OPm.refl h⟩
    · obtain ⟨d3, v3, h3, n3, z3, ec3, e⟩ := b_call (m2 := 30) (k := 0) (nL := 1) (as := [.ref (12 + 24 * t + 4 * k)]) (rest := []) (L := [some (.ref (12 + 24 * t + 4 * k))]) e (show fl_code 28 74 = some (18, [((30 : Nat) : Int), ((0 : Nat) : Int)], 77) by decide +kernel) rfl (by decide +kernel) rfl rfl rfl
      obtain ⟨m1, x1, x2, x3⟩ := x_str hT ht (s := k) (by omega)
      obtain ⟨w1, w2, w3⟩ := tri (x1 _ _ ec3)
      rw [w1, w2, w3] at e
      have e : Ev d 28 (77, [some (.ref (4 + 24 * t)), some (.int (Int32.ofNat k))], [], m1, fl_tot) r := e
      have e := y_st_i (S.opm x3) ht e
      rw [o32 (by omega)] at e
      obtain ⟨h', a, b, c⟩ := x_strs ht f (k := k + 1) (S.opm x3) x2 (by omega) (by omega) e
      exact ⟨h', a, b, x3.trans c⟩
/-- what a tray's begin leaves -/
def TBv (h h' : Hp) (t : Nat) : Prop := (h'.1 (5 + 24 * t) 1 = Int32.ofInt 0 ∧ h'.1 (5 + 24 * t) 2 = Int32.ofInt 0 ∧ h'.1 (5 + 24 * t) 3 = Int32.ofInt 0 ∧ h'.1 (5 + 24 * t) 4 = Int32.ofInt 0) ∧ (∀ j : Nat, j < 64 → h'.1 (6 + 24 * t) j = Int32.ofInt 0) ∧ (∀ m : Nat, m < 4 → h'.1 (8 + 24 * t) m = Int32.ofInt (-1)) ∧ (h'.1 (4 + 24 * t) 9 = Int32.ofInt 0 ∧ h'.1 (4 + 24 * t) 10 = Int32.ofInt 0 ∧ h'.1 (4 + 24 * t) 11 = Int32.ofInt 0) ∧ ((h.1 (4 + 24 * t) 6).toInt = 5 → ∀ j : Nat, j < 32 → h'.1 (10 + 24 * t) j = h.1 (9 + 24 * t) j)
/-- what it may touch: tray t's cells, stripes -/
def TBf (t : Nat) (h h' : Hp) : Prop := (∀ r j : Nat, ¬ (4 + 24 * t ≤ r ∧ r < 12 + 24 * t ∧ ¬ (r = 4 + 24 * t ∧ j ≤ 8) ∧ r ≠ 9 + 24 * t) → ¬ (12 ≤ r ∧ r < 148 ∧ 8 ≤ (r - 4) % 24) → h'.1 r j = h.1 r j) ∧ ∀ r j : Nat, ¬ (12 ≤ r ∧ r < 148 ∧ 8 ≤ (r - 4) % 24 ∧ ¬ (r % 4 = 0 ∧ j = 2)) → h'.2 r j = h.2 r j
theorem tbH_v {h : Hp} {t : Nat} (ht : t < 6) (k : (h.1 (4 + 24 * t) 6).toInt ≠ 5) : TBv h (tbH h t) t := by
  unfold tbH
  refine ⟨⟨?_, ?_, ?_, ?_⟩, fun j hj => ?_, fun m hm => ?_, ⟨?_, ?_, ?_⟩, fun z => absurd z k⟩
  all_goals simp (disch := omega) only [setI_at, setI_no, fill_at, fill_no]
theorem tbH_f {h : Hp} {t : Nat} (ht : t < 6) : TBf t h (tbH h t) := by
  unfold tbH
  refine ⟨fun r j z1 z2 => ?_, fun _ _ _ => rfl⟩
  simp (disch := omega) only [setI_no, fill_no]
theorem TBv.opm {h h1 h' : Hp} {t : Nat} (ht : t < 6) (x : OPm h1 h') (V : TBv h h1 t) : TBv h h' t := by
  obtain ⟨⟨v1, v2, v3, v4⟩, v5, v6, ⟨v7, v8, v9⟩, v10⟩ := V
  have f := x.1
  refine ⟨⟨?_, ?_, ?_, ?_⟩, fun j hj => ?_, fun m hm => ?_, ⟨?_, ?_, ?_⟩, fun z j hj => ?_⟩
  · rw [f _ _ (by omega)]; exact v1
  · rw [f _ _ (by omega)]; exact v2
  · rw [f _ _ (by omega)]; exact v3
  · rw [f _ _ (by omega)]; exact v4
  · rw [f _ _ (by omega)]; exact v5 j hj
  · rw [f _ _ (by omega)]; exact v6 m hm
  · rw [f _ _ (by omega)]; exact v7
  · rw [f _ _ (by omega)]; exact v8
  · rw [f _ _ (by omega)]; exact v9
  · rw [f _ _ (by omega)]; exact v10 z j hj
theorem x_trayB {d t : Nat} {h : Hp} {r : Option Value × Hp × Nat} (S : SH h.2) (hT : TInv h) (ht : t < 6) (e : Ev d 28 (0, [some (.ref (4 + 24 * t)), none], [], h, fl_tot) r) : ∃ h', r = (none, h', fl_tot) ∧ TInv h' ∧ TBf t h h' ∧ TBv h h' t := by
  have S1 : SH (tbH h t).2 := S
  have T1 := tbH_T hT ht
  rcases y_trayBegin S ht e with ⟨q1, q2, e⟩ | ⟨q1, q2, w⟩ | ⟨q1, q2, w⟩
  · obtain ⟨h', w, a, b⟩ := x_strs ht 5 (k := 0) S1 T1 (by omega) (by omega) e
    have F := tbH_f (h := h) ht
    exact ⟨h', w, a, ⟨fun r j z1 z2 => (b.1 r j z2).trans (F.1 r j z1 z2), fun r j z => (b.2 r j z).trans (F.2 r j z)⟩, (tbH_v ht q1).opm ht b⟩
  · exact ⟨_, w, T1, tbH_f ht, tbH_v ht q1⟩
  · have T2 : TInv (fl_copy (tbH h t) (9 + 24 * t) 0 (10 + 24 * t) 0 32) := by
      obtain ⟨m1, d0, e0, e1, e2, e3⟩ := xcon (j := 20) (m := 28) (nL := 2) (as := [.ref (4 + 24 * t)]) (h := h) (L := [some (.ref (4 + 24 * t)), none]) (show ab_cts[20]? = some (28, 2, [(2, 4, 0)], (9, 0, 0), [4, 5, 6, 8, 9, 11, 13], [], []) by rfl) rfl rfl rfl hT ⟨_, _, rfl, ⟨_, rfl, of_decide_eq_true (List.all_eq_true.mp (show ((List.range 6).all fun t => decide (ab_kd (4 + 24 * t) = 4)) = true by decide +kernel) t (List.mem_range.mpr ht))⟩, rfl⟩ (by decide +kernel) rfl
      have k := e1 _ _ e
      rw [w] at k
      obtain ⟨-, k2, -⟩ := tri k
      show TInv (fl_copy (fl_setI (fl_setI (fl_setI (fl_fill (fl_setI (fl_setI (fl_setI (fl_setI (fl_fill h (6 + 24 * t) 64 (Int32.ofInt 0)) (5 + 24 * t) 1 (Int32.ofInt 0)) (5 + 24 * t) 2 (Int32.ofInt 0)) (5 + 24 * t) 3 (Int32.ofInt 0)) (5 + 24 * t) 4 (Int32.ofInt 0)) (8 + 24 * t) 4 (Int32.ofInt (-1))) (4 + 24 * t) 9 (Int32.ofInt 0)) (4 + 24 * t) 10 (Int32.ofInt 0)) (4 + 24 * t) 11 (Int32.ofInt 0)) (9 + 24 * t) 0 (10 + 24 * t) 0 32)
      rw [k2]
      exact e2
    have F := tbH_f (h := h) ht
    refine ⟨_, w, T2, ⟨fun r j z1 z2 => (cpy_no (by omega)).trans (F.1 r j z1 z2), fun r j z => F.2 r j z⟩, ?_⟩
    show TBv h (fl_copy (tbH h t) (9 + 24 * t) 0 (10 + 24 * t) 0 32) t
    refine ⟨⟨?_, ?_, ?_, ?_⟩, fun j hj => ?_, fun m hm => ?_, ⟨?_, ?_, ?_⟩, fun z j hj => ?_⟩
    case refine_10 =>
      rw [cpy_at (by omega), F.1 _ _ (by omega) (by omega)]
      simp
    all_goals
      rw [cpy_no (by omega)]
      unfold tbH
      simp (disch := omega) only [setI_at, setI_no, fill_at, fill_no]
theorem SH.tbf {t : Nat} {a b : Hp} (x : TBf t a b) (S : SH a.2) : SH b.2 := SH.fx (c0 := 0) (i0 := 0) (t0 := 0) (by decide) (by decide) (by decide) (fun r j _ z => x.2 r j z) S
theorem TBv.next {h h0 h' : Hp} {t u : Nat} (ht : t < 6) (hu : u < 6) (n : u ≠ t) (x : TBf t h0 h') (V : TBv h h0 u) : TBv h h' u := by
  obtain ⟨⟨v1, v2, v3, v4⟩, v5, v6, ⟨v7, v8, v9⟩, v10⟩ := V
  have f := x.1
  refine ⟨⟨?_, ?_, ?_, ?_⟩, fun j hj => ?_, fun m hm => ?_, ⟨?_, ?_, ?_⟩, fun z j hj => ?_⟩
  · rw [f _ _ (by omega) (by omega)]; exact v1
  · rw [f _ _ (by omega) (by omega)]; exact v2
  · rw [f _ _ (by omega) (by omega)]; exact v3
  · rw [f _ _ (by omega) (by omega)]; exact v4
  · rw [f _ _ (by omega) (by omega)]; exact v5 j hj
  · rw [f _ _ (by omega) (by omega)]; exact v6 m hm
  · rw [f _ _ (by omega) (by omega)]; exact v7
  · rw [f _ _ (by omega) (by omega)]; exact v8
  · rw [f _ _ (by omega) (by omega)]; exact v9
  · rw [f _ _ (by omega) (by omega)]; exact v10 z j hj
/-- the trays, all -/
def TBa (h h' : Hp) : Prop := (∀ r j : Nat, ¬ (4 ≤ r ∧ r < 148 ∧ ¬ ((r - 4) % 24 = 0 ∧ j ≤ 8) ∧ (r - 4) % 24 ≠ 5) → h'.1 r j = h.1 r j) ∧ ∀ r j : Nat, ¬ (12 ≤ r ∧ r < 148 ∧ 8 ≤ (r - 4) % 24 ∧ ¬ (r % 4 = 0 ∧ j = 2)) → h'.2 r j = h.2 r j
theorem TBa.of {t : Nat} {h h' : Hp} (ht : t < 6) (x : TBf t h h') : TBa h h' := ⟨fun r j z => x.1 r j (by omega) (by omega), x.2⟩
theorem TBa.trans {a b c : Hp} (x : TBa a b) (y : TBa b c) : TBa a c := ⟨fun r j z => (y.1 r j z).trans (x.1 r j z), fun r j z => (y.2 r j z).trans (x.2 r j z)⟩
theorem KFX.tbf {t : Nat} {h h' : Hp} (x : TBf t h h') : KFX 0 0 t h h' := ⟨fun r j _ _ z => x.1 r j (fun y => z (Or.inl y)) (fun y => z (Or.inr y)), fun r j _ z => x.2 r j z⟩
theorem SX.tbf {g h h' : Hp} {t : Nat} (G : GS g) (ht : t < 6) (x : TBf t h h') (X : SX g h) : SX g h' := by
  obtain ⟨s, hs⟩ := ((X.2.2.2.1 0 (by decide)).2 0 (by decide)).2.2
  exact SX.fx G (c := 0) (i := 0) (t := t) (by decide) (by decide) ht (KFX.tbf x) ⟨s, (x.2 _ _ (by omega)).trans hs⟩ X
theorem x_trays {g : Hp} (G : GS g) {d : Nat} {r : Option Value × Hp × Nat} : ∀ (f : Nat) {h : Hp} {k : Nat}, SX g h → TInv h → k ≤ qt g → qt g - k < f → Ev d 27 (2, [some (.ref 1), some (.int (Int32.ofNat k)), none, none], [], h, fl_tot) r → ∃ h', TInv h' ∧ SX g h' ∧ TBa h h' ∧ (∀ t : Nat, k ≤ t → t < qt g → TBv h h' t) ∧ (∀ t : Nat, t < k → ∀ h0, TBv h0 h t → TBv h0 h' t) ∧ Ev d 27 (27, [some (.ref 1), some (.int (Int32.ofInt 0)), none, none], [], h', fl_tot) r
  | 0, h, k, X, hT, hk, hf, e => by omega
  | f + 1, h, k, X, hT, hk, hf, e => by
    have h6 := G.1.1
    have S := X.1
    have hn : (h.1 1 2).toInt = qt g := by rw [X.2.1.1]; exact G.1.2.1
    have ek := i32n (n := k) (by omega)
    have ekn : (Int32.ofNat k).toNatClampNeg = k := o32c (by omega)
    have V := y_bg_t S e
    rw [ekn] at V
    rcases V with ⟨q, e⟩ | ⟨q, -, -, e⟩
    · exact ⟨h, hT, X, ⟨fun _ _ _ => rfl, fun _ _ _ => rfl⟩, fun t h1 h2 => by omega, fun _ _ _ v => v, y_bg_tx S e⟩
    · obtain ⟨d3, v3, h3, n3, z3, ec3, e⟩ := b_call (m2 := 28) (k := 0) (nL := 2) (as := [.ref (4 + 24 * k)]) (rest := []) (L := [some (.ref (4 + 24 * k)), none]) e (show fl_code 27 16 = some (18, [((28 : Nat) : Int), ((0 : Nat) : Int)], 19) by decide +kernel) rfl (by decide +kernel) rfl rfl rfl
      obtain ⟨m1, x1, x2, x3, x4⟩ := x_trayB S hT (t := k) (by omega) ec3
      obtain ⟨w1, w2, w3⟩ := tri x1
      rw [w1, w2, w3] at e
      have e : Ev d 27 (19, [some (.ref 1), some (.int (Int32.ofNat k)), none, none], [], m1, fl_tot) r := e
      have X1 := SX.tbf G (by omega) x3 X
      have e := y_bg_ti X1.1 e
      rw [o32 (by omega)] at e
      obtain ⟨h', a1, a2, a3, a4, a5, a6⟩ := x_trays G f (k := k + 1) X1 x2 (by omega) (by omega) e
      refine ⟨h', a1, a2, (TBa.of (by omega) x3).trans a3, fun t t1 t2 => ?_, fun t t1 h0 v => a5 t (by omega) h0 (v.next (by omega) (by omega) (by omega) x3), a6⟩
      by_cases y : t = k
      · rw [y]
        exact a5 k (by omega) h x4
      · obtain ⟨b1, b2, b3, b4, b5⟩ := a4 t (by omega) t2
        refine ⟨b1, b2, b3, b4, fun z j hj => ?_⟩
        rw [b5 (by rw [x3.1 _ _ (by omega) (by omega)]; exact z) j hj, x3.1 _ _ (by omega) (by omega)]
