
set_option maxRecDepth 20000
/-! EXPLORE, BOTH SIDES: who is chosen, by bits and by counts -/
theorem RR.out2 {g h h' hm hm' : Hp} {st : Nat} (G : GS g) (R : RR g h hm st) (x : ∀ r j : Nat, ¬ (r = 0 ∨ (210 ≤ r ∧ r < 1000) ∨ (r = 208 ∧ (j = 5 ∨ j = 6))) → h'.1 r j = h.1 r j) (x2 : h'.2 = h.2) (m : ∀ K j : Nat, K < 273 → ¬ (K = 223 ∧ (j = 13 ∨ j = 14 ∨ 56 ≤ j)) → hm'.1 K j = hm.1 K j) (m2 : hm'.2 = hm.2) (T : TInv hm') : RR g h' hm' st := by
  obtain ⟨⟨X, M, S15, K, hT⟩, RT, RO⟩ := R
  have t6 := G.1.1
  have MXX : KMX hm hm' := ⟨by rw [m _ _ (by omega) (by omega)]; exact Int.le_refl _, fun j _ => ⟨m _ _ (by omega) (by omega), m _ _ (by omega) (by omega), m _ _ (by omega) (by omega)⟩⟩
  refine ⟨⟨X.low G x2 (fun r j hr => x r j (by omega)), M.low m2 (fun K j hK => m K j (by omega) (by omega)), by rw [m _ _ (by omega) (by omega)]; exact S15, K.fr (x _ _ (by omega)) (fun j => x _ _ (by omega)) (m _ _ (by omega) (by omega)) (fun K j h1 h2 => m _ _ (by omega) (by omega)), T⟩, fun t ht => ⟨?_, ?_⟩, fun o ho => ?_⟩
  · exact (RT t ht).1.fr (TI.rng hT 69 6 0 40 (by decide +kernel) (by decide) (by decide) (i := t) (by omega)).2 (Int.le_refl _) ⟨fun j => ⟨x _ _ (by omega), x _ _ (by omega), x _ _ (by omega), x _ _ (by omega)⟩, fun K j hK _ _ => m _ _ (by omega) (by omega), fun j _ _ => m _ _ (by omega) (by omega), fun K hK => m _ _ (by omega) (by omega), fun j _ _ => m _ _ (by omega) (by omega)⟩
  · exact (RT t ht).2.fr (fun j => x _ _ (by omega)) (fun j _ _ => m _ _ (by omega) (by omega))
  · have o5 := G.c5 ho
    exact (RO o ho).fr ⟨fun r j _ _ => ⟨x _ _ (by omega), by rw [x2]⟩, fun K h1 h2 => m _ _ (by omega) (by omega), fun K j hK h1 h2 => m _ _ (by omega) (by omega), fun K j h1 h2 h3 h4 => m _ _ (by omega) (by omega), fun j hj => by rw [m _ _ (by omega) (by omega)]; exact hj⟩ MXX (G.m8 ho)
theorem abM_bits : ((List.range 32).all fun v => (List.range 6).all fun n => (List.range 5).all fun c => decide (chB (abM (vB v) n) (Int32.ofNat c) = decide (c < n ∧ vB v c = true))) = true := by decide +kernel
theorem abM_bit {P : Nat → Bool} {n c : Nat} (h5 : n ≤ 5) (hc : c < 5) : chB (abM P n) (Int32.ofNat c) = decide (c < n ∧ P c = true) := by
  obtain ⟨v32, vb⟩ := vOf_bit P
  have e : abM P n = abM (vB (vOf P)) n := abM_congr n fun j hj => (vb j (by omega)).symm
  have K := of_decide_eq_true (List.all_eq_true.mp (List.all_eq_true.mp (List.all_eq_true.mp abM_bits (vOf P) (List.mem_range.mpr v32)) n (List.mem_range.mpr (by omega))) c (List.mem_range.mpr hc))
  have hv : vB (vOf P) c = P c := vb c hc
  rw [e, K, hv]
theorem cnt_skip {g : Hp} {n : Nat} (e4 : rd 31 4 g = n) (h5 : n ≤ 5) : ∀ (k a : Nat), a + k ≤ n → (∀ j : Nat, a ≤ j → j < a + k → PA g j = false) → cntA g (a : Int) = cntA g ((a + k : Nat) : Int)
  | 0, _, _, _ => rfl
  | k + 1, a, h1, h2 => by
    have e := cntA_step (h := g) (c := (a : Int)) (by omega) (by omega)
    have z := PA_0 (h2 a (Nat.le_refl _) (by omega))
    have r := cnt_skip e4 h5 k (a + 1) (by omega) (fun j z1 z2 => h2 j (by omega) (by omega))
    rw [show a + 1 + k = a + (k + 1) by omega] at r
    rw [show ((a + 1 : Nat) : Int) = (a : Int) + 1 by omega] at r
    rw [e, z, ← r]
    omega
theorem nth_lt {g : Hp} {n : Nat} (e4 : rd 31 4 g = n) (h5 : n ≤ 5) {i : Int} {c : Nat} (N : isNth g i (c : Int)) : c < n ∧ PA g c = true ∧ cntA g (c : Int) = cntA g ((c + 1 : Nat) : Int) + 1 ∧ cntA g (c : Int) = cntA g 0 - i := by
  obtain ⟨n1, n2, n3, n4⟩ := N
  have e := cntA_step (h := g) (c := (c : Int)) (by omega) (by omega)
  refine ⟨by omega, PA_t n3, ?_, n4⟩
  rw [n3] at e
  rw [show ((c + 1 : Nat) : Int) = (c : Int) + 1 by omega]
  exact e
theorem nob_iff {g : Hp} {n : Nat} (e4 : rd 31 4 g = n) (h5 : n ≤ 5) {i : Int} {c : Nat} (N : isNth g i (c : Int)) : (∀ c' : Nat, c < c' → c' < 5 → chB (abM (PA g) n) (Int32.ofNat c') = false) ↔ cntA g 0 ≤ i + 1 := by
  obtain ⟨a1, a2, a3, a4⟩ := nth_lt e4 h5 N
  constructor
  · intro z
    have s := cnt_skip e4 h5 (n - (c + 1)) (c + 1) (by omega) (fun j z1 z2 => by
      have q := z j (by omega) (by omega)
      rw [abM_bit h5 (by omega)] at q
      have q := of_decide_eq_false q
      cases y : PA g j
      · rfl
      · exact absurd ⟨by omega, y⟩ q)
    have t : cntA g ((c + 1 + (n - (c + 1)) : Nat) : Int) = 0 := cntA_end (by omega)
    omega
  · intro z c' z1 z2
    rw [abM_bit h5 z2]
    refine decide_eq_false fun y => ?_
    have e := cntA_step (h := g) (c := (c' : Int)) (by omega) (by omega)
    have m := cntA_mono (h := g) (c := ((c + 1 : Nat) : Int)) (c' := (c' : Int)) (by omega)
    have b := (cntA_bd g ((c' : Int) + 1)).1
    rw [PA_1 y.2] at e
    omega
theorem nxt_nth {g : Hp} {n : Nat} (e4 : rd 31 4 g = n) (h5 : n ≤ 5) {i : Int} {c c' : Nat} (N : isNth g i (c : Int)) (h1 : c < c') (h2 : c' < 5) (h3 : chB (abM (PA g) n) (Int32.ofNat c') = true) (h4 : ∀ c'' : Nat, c < c'' → c'' < c' → chB (abM (PA g) n) (Int32.ofNat c'') = false) : isNth g (i + 1) (c' : Int) ∧ c' < n := by
  obtain ⟨a1, a2, a3, a4⟩ := nth_lt e4 h5 N
  rw [abM_bit h5 h2] at h3
  have h3 := of_decide_eq_true h3
  have s := cnt_skip e4 h5 (c' - (c + 1)) (c + 1) (by omega) (fun j z1 z2 => by
    have q := h4 j (by omega) (by omega)
    rw [abM_bit h5 (by omega)] at q
    have q := of_decide_eq_false q
    cases y : PA g j
    · rfl
    · exact absurd ⟨by omega, y⟩ q)
  rw [show c + 1 + (c' - (c + 1)) = c' by omega] at s
  exact ⟨⟨by omega, by omega, PA_1 h3.2, by omega⟩, h3.1⟩
theorem least_of {P : Nat → Bool} {n : Nat} : ∀ c : Nat, c < n → P c = true → ∃ c0 : Nat, c0 < n ∧ P c0 = true ∧ ∀ j : Nat, j < c0 → P j = false := by
  have K : ∀ m : Nat, (∀ j, j < m → P j = false) ∨ ∃ c0, c0 < m ∧ P c0 = true ∧ ∀ j, j < c0 → P j = false := by
    intro m
    induction m with
    | zero => exact Or.inl fun j hj => by omega
    | succ m ih =>
      rcases ih with ih | ⟨c0, a1, a2, a3⟩
      · cases y2 : P m with
        | true => exact Or.inr ⟨m, by omega, y2, ih⟩
        | false =>
          refine Or.inl fun j hj => ?_
          by_cases z : j = m
          · rw [z]; exact y2
          · exact ih j (by omega)
      · exact Or.inr ⟨c0, by omega, a2, a3⟩
  intro c hc hp
  rcases K n with k | k
  · rw [k c hc] at hp
    cases hp
  · exact k
/-- the class's pick: the clerk named in the plan, if able, else the least one -/
theorem pick {g : Hp} {n : Nat} (hT : TInv g) (e4 : rd 31 4 g = n) (h5 : n ≤ 5) {w : Int} {v : Nat} (N : isNth g w (v : Int)) {p : Int32} (hp : p = Int32.ofNat v ∨ (p = Int32.ofInt (-1) ∧ w = 0)) {d : Nat} {h : Hp} {r : Option Value × Hp × Nat} (e : Ev d 41 (0, [some (.int p), some (.int (abM (PA g) n)), none], [], h, fl_tot) r) : r = (some (.int (Int32.ofNat v)), h, fl_tot) := by
  obtain ⟨a1, a2, a3, a4⟩ := nth_lt e4 h5 N
  obtain ⟨c0, b1, b2, b3⟩ := least_of v a1 a2
  obtain ⟨⟨b, b32, eb⟩, an, ac⟩ := cho h5 b1 b2 b3
  rcases hp with rfl | ⟨rfl, hw⟩
  · have e1 : Int32.ofNat v = Int32.ofInt (((v + 1 : Nat) : Int) - 1) := by
      rw [← ofnI]
      congr 1
      omega
    rw [e1, eb] at e
    have w3 := x_choose1 (x := v + 1) (by omega) b32 e
    rw [← eb, ac (v + 1) (by omega), if_pos ⟨by omega, by omega, by rw [Nat.add_sub_cancel]; exact a2⟩, Nat.add_sub_cancel] at w3
    exact w3
  · have e1 : Int32.ofInt (-1) = Int32.ofInt (((0 : Nat) : Int) - 1) := rfl
    rw [e1, eb] at e
    have w3 := x_choose1 (x := 0) (by omega) b32 e
    rw [← eb, ac 0 (by omega), if_neg (by omega)] at w3
    have s := cnt_skip e4 h5 c0 0 (by omega) (fun j z1 z2 => b3 j (by omega))
    rw [Nat.zero_add] at s
    have N0 : isNth g w (c0 : Int) := ⟨by omega, by omega, PA_1 b2, by
      rw [← s, hw]
      show cntA g ((0 : Nat) : Int) = cntA g 0 - 0
      rw [show ((0 : Nat) : Int) = 0 from rfl]
      omega⟩
    have q := isNth_eq hT rfl (fun c _ _ => rfl) N N0
    have q2 : v = c0 := by omega
    rw [q2]
    exact w3
/-! the books of a run, the plan -/
def ARx (b g h hm : Hp) (st : Nat) : Prop := ∀ j : Nat, j < st → ∃ (gj : Hp) (c : Nat), Rea b (chF hm) j gj ∧ rd 31 4 gj = qc g ∧ isNth gj (rd 90 j hm) (c : Int) ∧ h.1 210 j = Int32.ofNat c ∧ h.1 211 j = abM (PA gj) (qc g) ∧ rd 90 j hm < cntA gj 0 ∧ rd 91 j hm = cntA gj 0
def PLx (b g h hm : Hp) (a fo : Nat) : Prop := (∀ j : Nat, a ≤ j → j < fo → ∃ (gj : Hp) (c : Nat), Rea b (chF hm) j gj ∧ rd 31 4 gj = qc g ∧ isNth gj (rd 90 j hm) (c : Int) ∧ h.1 219 j = Int32.ofNat c ∧ rd 90 j hm < cntA gj 0) ∧ ∀ j : Nat, a ≤ j → fo ≤ j → j < 600 → h.1 219 j = Int32.ofInt (-1)
theorem ARx.fr {b g h h' hm hm' : Hp} {st : Nat} (A : ARx b g h hm st) (x : ∀ j : Nat, j < st → h'.1 210 j = h.1 210 j ∧ h'.1 211 j = h.1 211 j) (m : ∀ j : Nat, j < st → rd 90 j hm' = rd 90 j hm ∧ rd 91 j hm' = rd 91 j hm) : ARx b g h' hm' st := fun j hj => by
  obtain ⟨gj, c, a1, a2, a3, a4, a5, a6, a7⟩ := A j hj
  refine ⟨gj, c, Rea.ch (fun i q1 q2 => ?_) a1, a2, by rw [(m j hj).1]; exact a3, by rw [(x j hj).1]; exact a4, by rw [(x j hj).2]; exact a5, by rw [(m j hj).1]; exact a6, by rw [(m j hj).2]; exact a7⟩
  obtain ⟨k, rfl⟩ : ∃ k : Nat, i = (k : Int) := ⟨i.toNat, by omega⟩
  exact (m k (by omega)).1
theorem PLx.fr {b g h h' hm hm' : Hp} {a a' fo : Nat} (P : PLx b g h hm a fo) (ha : a ≤ a') (x : ∀ j : Nat, h'.1 219 j = h.1 219 j) (m : ∀ j : Nat, j < fo → rd 90 j hm' = rd 90 j hm) : PLx b g h' hm' a' fo := by
  refine ⟨fun j h1 h2 => ?_, fun j h1 h2 h3 => by rw [x]; exact P.2 j (by omega) h2 h3⟩
  obtain ⟨gj, c, a1, a2, a3, a4, a5⟩ := P.1 j (by omega) h2
  refine ⟨gj, c, Rea.ch (fun i q1 q2 => ?_) a1, a2, by rw [m j h2]; exact a3, by rw [x]; exact a4, by rw [m j h2]; exact a5⟩
  obtain ⟨k, rfl⟩ : ∃ k : Nat, i = (k : Int) := ⟨i.toNat, by omega⟩
  exact m k (by omega)
theorem rd282 {h : Hp} {j : Nat} : rd 90 (j : Int) h = (h.1 282 j).toInt := xrd (by decide) (by decide) j h
theorem rd283 {h : Hp} {j : Nat} : rd 91 (j : Int) h = (h.1 283 j).toInt := xrd (by decide) (by decide) j h
theorem rd15 {h : Hp} : rd 31 15 h = (h.1 223 15).toInt := xrd (K := 31) (by decide) (by decide) 15 h
theorem ivc1 (a : Int32) : Value.int a = iv a.toInt := by unfold iv; rw [Int32.ofInt_toInt]
/-- how a run ends, both sides -/
theorem end_both {g h hm h3 : Hp} {st d d3 n3 : Nat} {v3 : Option Value} {oc ol : Option Value} {r : Option Value × Hp × Nat} (G : GS g) (R : RR g h hm st) (I : RI hm) (st9 : st ≤ 600) (e : Ev d 26 (92, [some (.ref 208), oc, some (.int (abM (PA hm) (qc g))), some (.int (Int32.ofNat st)), ol], [], h, fl_tot) r) (ec3 : Ev d3 178 (0, [some (.ref 223), none], [], hm, fl_tot) (v3, h3, n3)) : ∃ v : Int32, (0 ≤ v.toInt ∧ v.toInt ≤ 2) ∧ (v3, h3, n3) = (some (Value.int v), hm, fl_tot) ∧ r = (none, fl_setI (fl_setI h 208 5 (Int32.ofNat st)) 208 6 v, fl_tot) := by
  have Z := z_how R.1.2.1.1 (r4_of G R.1.2.1).1 G.1.2.2.1 (hP_z G R I) ec3
  have fin : ∀ (v : Int32), 0 ≤ v.toInt ∧ v.toInt ≤ 2 → (v3, h3, n3) = (some (Value.int v), hm, fl_tot) → r = (none, fl_setI (fl_setI h 208 5 (Int32.ofNat st)) 208 6 v, fl_tot) → ∃ v : Int32, (0 ≤ v.toInt ∧ v.toInt ≤ 2) ∧ (v3, h3, n3) = (some (Value.int v), hm, fl_tot) ∧ r = (none, fl_setI (fl_setI h 208 5 (Int32.ofNat st)) 208 6 v, fl_tot) := fun v bv w x => ⟨v, bv, w, x⟩
  rcases y_run_6 R.1.1.1 e with ⟨q, e⟩ | ⟨q, w⟩
  · -- nobody is able
    have nob : ∀ c, c < qc g → PA hm c = false := fun c hc => by
      cases y : PA hm c with
      | false => rfl
      | true =>
        exfalso
        -- the least that is able
        have K : ∀ m : Nat, (∀ j, j < m → PA hm j = false) ∨ ∃ c0, c0 < m ∧ PA hm c0 = true ∧ ∀ j, j < c0 → PA hm j = false := by
          intro m
          induction m with
          | zero => exact Or.inl fun j hj => by omega
          | succ m ih =>
            rcases ih with ih | ⟨c0, a1, a2, a3⟩
            · cases y2 : PA hm m with
              | true => exact Or.inr ⟨m, by omega, y2, ih⟩
              | false =>
                refine Or.inl fun j hj => ?_
                by_cases z : j = m
                · rw [z]; exact y2
                · exact ih j (by omega)
            · exact Or.inr ⟨c0, by omega, a2, a3⟩
        rcases K (qc g) with k | ⟨c0, a1, a2, a3⟩
        · rw [k c hc] at y
          cases y
        · exact (cho G.1.2.2.1 a1 a2 a3).2.1 q
    obtain ⟨d4, v4, h4, n4, z4, ec4, e⟩ := b_call (m2 := 80) (k := 0) (nL := 2) (as := [.ref 208]) (rest := [.ref 208]) (L := [some (.ref 208), none]) e (show fl_code 26 107 = some (18, [((80 : Nat) : Int), ((0 : Nat) : Int)], 110) by decide +kernel) rfl (by decide +kernel) rfl rfl rfl
    have S1 : SH (fl_setI h 208 5 (Int32.ofNat st)).2 := R.1.1.1
    have low : ∀ r j : Nat, ¬ (r = 208 ∧ j = 5) → (fl_setI h 208 5 (Int32.ofNat st)).1 r j = h.1 r j := fun r j z => setI_no z
    have E := y_ended (n := qc g) S1 (by rw [low _ _ (by omega), R.1.1.2.1.2]; exact G.1.2.2.2) G.1.2.2.1 (fun c hc => by
      rw [low _ _ (by omega), low _ _ (by omega)]
      exact (endeds G R hc).2) ec4
    have en : ∀ c : Nat, c < qc g → ((fl_setI h 208 5 (Int32.ofNat st)).1 (148 + 12 * c) 3).toInt ≤ ((fl_setI h 208 5 (Int32.ofNat st)).1 (148 + 12 * c) 4).toInt → (hm.1 227 c).toInt ≤ (hm.1 243 c).toInt := fun c hc z => by
      rw [low _ _ (by omega), low _ _ (by omega)] at z
      exact (endeds G R hc).1.mp z
    have ne : ∀ c : Nat, c < qc g → (hm.1 227 c).toInt ≤ (hm.1 243 c).toInt → ((fl_setI h 208 5 (Int32.ofNat st)).1 (148 + 12 * c) 3).toInt ≤ ((fl_setI h 208 5 (Int32.ofNat st)).1 (148 + 12 * c) 4).toInt := fun c hc z => by
      rw [low _ _ (by omega), low _ _ (by omega)]
      exact (endeds G R hc).1.mpr z
    rcases Z with ⟨⟨c, c1, c2⟩, -⟩ | ⟨-, Z⟩
    · rw [nob c c1] at c2
      cases c2
    · rcases E with ⟨a, w⟩ | ⟨⟨c, c1, c2⟩, w⟩
      · obtain ⟨w4a, w4b, w4c⟩ := tri w
        rw [w4a, w4b, w4c] at e
        have e : Ev d 26 (110, [some (.ref 208), oc, some (.int (abM (PA hm) (qc g))), some (.int (Int32.ofNat st)), ol], [.int (Int32.ofInt 1), .ref 208], fl_setI h 208 5 (Int32.ofNat st), fl_tot) r := e
        rcases y_run_7 S1 e with ⟨q, -⟩ | ⟨-, x⟩
        · exact absurd q (by decide)
        · rcases Z with ⟨-, z⟩ | ⟨⟨c, c1, c2⟩, -⟩
          · exact fin _ (by decide) z x
          · exact absurd (en c c1 (a c c1)) c2
      · obtain ⟨w4a, w4b, w4c⟩ := tri w
        rw [w4a, w4b, w4c] at e
        have e : Ev d 26 (110, [some (.ref 208), oc, some (.int (abM (PA hm) (qc g))), some (.int (Int32.ofNat st)), ol], [.int (Int32.ofInt 0), .ref 208], fl_setI h 208 5 (Int32.ofNat st), fl_tot) r := e
        rcases y_run_7 S1 e with ⟨-, x⟩ | ⟨q, -⟩
        · rcases Z with ⟨b, -⟩ | ⟨-, z⟩
          · exact absurd (ne c c1 (b c c1)) c2
          · exact fin _ (by decide) z x
        · exact absurd (by decide) q
  · rcases Z with ⟨-, z⟩ | ⟨a, -⟩
    · exact fin _ (by decide) z w
    · exfalso
      rw [abM_0 _ a] at q
      exact q (by decide)
/-- where a run of explore's has come to, both sides -/
def EXR (b g h hm : Hp) (st fo : Nat) : Prop := RR g h hm st ∧ TInv h ∧ RI hm ∧ Rea b (chF hm) st hm ∧ ARx b g h hm st ∧ PLx b g h hm st fo ∧ Fq exKs exFs b hm
/-- one step -/
theorem ex_s {b g h hm : Hp} {st fo d d2 : Nat} {ol : Option Value} {mo rs mr W : Int32} {r r2 : Option Value × Hp × Nat} (G : GS g) (E : EXR b g h hm st fo) (st9 : st < 600) (hW : 0 ≤ W.toInt ∧ W.toInt < cntA hm 0) (hf : st < fo → W = hm.1 282 st) (hn : fo ≤ st → W = Int32.ofInt 0) (e : Ev d 26 (45, [some (.ref 208), some (.ref 219), some (.int (abM (PA hm) (qc g))), some (.int (Int32.ofNat st)), ol], [.int (abM (PA hm) (qc g)), .int (h.1 219 st)], h, fl_tot) r) (e2 : Ev d2 206 (138, [some (.ref 223), some (.int mo), some (.int (Int32.ofNat fo)), some (.int rs), some (.int mr), some (.int (Int32.ofInt (cntA hm 0))), some (.int (Int32.ofNat st))], [.int W, .ref 223, .ref 223], fl_setI (fl_setI hm 282 st W) 283 st (Int32.ofInt (cntA hm 0)), fl_tot) r2) : ∃ (h' hm' : Hp) (ol' : Option Value), EXR b g h' hm' (st + 1) fo ∧ Ev d 26 (20, [some (.ref 208), some (.ref 219), some (.int (abM (PA hm') (qc g))), some (.int (Int32.ofNat (st + 1))), ol'], [], h', fl_tot) r ∧ Ev d2 206 (75, [some (.ref 223), some (.int mo), some (.int (Int32.ofNat fo)), some (.int rs), some (.int mr), some (.int (Int32.ofInt (cntA hm' 0))), some (.int (Int32.ofNat st))], [], hm', fl_tot) r2 := by
  obtain ⟨R, hT, I, Re, A, Pl, Fb⟩ := E
  have hTm := R.1.2.2.2.2
  have r4 := (r4_of G R.1.2.1).2
  have q5 : qc g ≤ 5 := G.1.2.2.1
  have cb := cntA_bd hm 0
  obtain ⟨hm1, em1⟩ : ∃ z, z = fl_setI (fl_setI hm 282 st W) 283 st (Int32.ofInt (cntA hm 0)) := ⟨_, rfl⟩
  rw [← em1] at e2
  have low1 : ∀ K j : Nat, ¬ (K = 282 ∨ K = 283) → hm1.1 K j = hm.1 K j := fun K j z => by rw [em1, setI_no (by omega), setI_no (by omega)]
  have Tm1 : TInv hm1 := by
    rw [em1]
    exact (hTm.a 282 _ 0 4 (by decide +kernel) (by decide +kernel) (by omega)).a 283 _ 0 5 (by decide +kernel) (by decide +kernel) (by rw [kc (by omega) (by omega)]; omega)
  have m90 : ∀ j : Nat, hm1.1 282 j = if j = st then W else hm.1 282 j := fun j => by
    rw [em1, setI_no (by omega)]
    by_cases z : j = st
    · rw [if_pos z, z, setI_at]
    · rw [if_neg z, setI_no (by omega)]
  have m91 : hm1.1 283 st = Int32.ofInt (cntA hm 0) := by rw [em1, setI_at]
  have m91' : ∀ j : Nat, j ≠ st → hm1.1 283 j = hm.1 283 j := fun j z => by rw [em1, setI_no (by omega), setI_no (by omega)]
  have F1 : Fq [90, 91] [] hm hm1 := Fq.cells (fun K j h1 h2 h3 => low1 _ _ (by
    simp only [List.mem_cons, List.not_mem_nil, or_false, not_or] at h3
    omega)) (fun k _ => low1 _ _ (by omega))
  have Rm : RR g h hm1 st := RR.out2 G R (fun _ _ _ => rfl) rfl (fun K j k1 k2 => low1 K j (by omega)) (by rw [em1]; rfl) Tm1
  have I1 : RI hm1 := I.fr F1 rfl
  have chs : ∀ i : Int, 0 ≤ i → i < st → rd 90 i hm1 = rd 90 i hm := fun i q1 q2 => by
    obtain ⟨k, rfl⟩ : ∃ k : Nat, i = (k : Int) := ⟨i.toNat, by omega⟩
    rw [rd282, rd282, m90, if_neg (by omega)]
  have Re1 : Rea b (chF hm1) st hm1 := (Re.fr Tm1 (F1.wide rfl rfl)).ch chs
  have Re0 : Rea b (chF hm1) st hm := Re.ch chs
  have ec : cntA hm1 0 = cntA hm 0 := Rea.cnt Re0 Re1
  have r41 : rd 31 4 hm1 = qc g := (F1.f 4 rfl).trans r4
  have eab : abM (PA hm1) (qc g) = abM (PA hm) (qc g) := abM_congr _ fun j hj => by
    show decide (ableV hm1 (j : Int) = 1) = decide (ableV hm (j : Int) = 1)
    rw [(Re0.le Re1).able hTm I (c := (j : Int)) (by omega) (by omega)]
  have A1 : ∀ c, 0 ≤ c → c < rd 31 4 hm1 → AbPre hm1 c := fun c q1 q2 => I1.ab Tm1 q1 q2
  obtain ⟨v', v1, v2⟩ := c_ableAt Tm1 A1 (i := W.toInt) (by omega) (by rw [ec]; exact hW.2)
  obtain ⟨v, rfl⟩ : ∃ v : Nat, v' = (v : Int) := ⟨v'.toNat, by have := v1.1; omega⟩
  obtain ⟨w1, w2, w3, w4⟩ := nth_lt r41 q5 v1
  have w5 : v < 5 := by omega
  -- the reference: who that is
  obtain ⟨d3, v3, h3, n3, z3, ec3, e2⟩ := b_call (m2 := 208) (k := 1) (nL := 4) (as := [.ref 223, .int W]) (rest := [.ref 223]) (L := [some (.ref 223), some (.int W), none, none]) e2 (show fl_code 206 138 = some (18, [((208 : Nat) : Int), ((1 : Nat) : Int)], 141) by decide +kernel) rfl (by decide +kernel) rfl rfl rfl
  obtain ⟨x1, x2, x3⟩ := tri (ev_det ec3 (show Ev 6 208 (0, [some (.ref 223), some (.int W), none, none], [], hm1, fl_tot) _ from by
    have := v2 6 (Nat.le_refl _)
    rw [rv31, ← ivc1] at this
    exact this))
  rw [x1, x2, x3] at e2
  have e2 : Ev d2 206 (141, [some (.ref 223), some (.int mo), some (.int (Int32.ofNat fo)), some (.int rs), some (.int mr), some (.int (Int32.ofInt (cntA hm 0))), some (.int (Int32.ofNat st))], [.int (Int32.ofNat v), .ref 223], hm1, fl_tot) r2 := e2
  -- the class: the same
  rw [← eab] at e
  obtain ⟨d4, v4, h4, n4, z4, ec4, e⟩ := b_call (m2 := 41) (k := 2) (nL := 3) (as := [.int (h.1 219 st), .int (abM (PA hm1) (qc g))]) (rest := []) (L := [some (.int (h.1 219 st)), some (.int (abM (PA hm1) (qc g))), none]) e (show fl_code 26 45 = some (19, [((41 : Nat) : Int), ((2 : Nat) : Int)], 48) by decide +kernel) rfl (by decide +kernel) rfl rfl rfl
  have hp : h.1 219 st = Int32.ofNat v ∨ (h.1 219 st = Int32.ofInt (-1) ∧ W.toInt = 0) := by
    by_cases z : st < fo
    · obtain ⟨gj, c, a1, a2, a3, a4, a5⟩ := Pl.1 st (Nat.le_refl _) z
      have a1' := a1.ch chs
      have gi := a1'.inv
      rw [rd282, ← hf z] at a3
      have q := isNth_eq gi.1 (by rw [r41, a2]) (fun c c1 c2 => (a1'.le Re1).able gi.1 gi.2 c1 c2) a3 v1
      rw [a4, show c = v by omega]
      exact Or.inl rfl
    · refine Or.inr ⟨Pl.2 st (Nat.le_refl _) (by omega) st9, ?_⟩
      rw [hn (by omega)]
      rfl
  obtain ⟨x1, x2, x3⟩ := tri (pick Tm1 r41 q5 v1 hp ec4)
  rw [x1, x2, x3] at e
  have e : Ev d 26 (48, [some (.ref 208), some (.ref 219), some (.int (abM (PA hm1) (qc g))), some (.int (Int32.ofNat st)), ol], [.int (Int32.ofNat v)], h, fl_tot) r := e
  have ewn : (Int32.ofNat v).toNatClampNeg = v := o32c (by omega)
  have ewi : (Int32.ofNat v).toInt = v := i32n (by omega)
  have esn : (Int32.ofNat st).toNatClampNeg = st := o32c (by omega)
  obtain ⟨-, -, e⟩ := y_run_3 R.1.1.1 e
  rw [ewn, esn] at e
  obtain ⟨h1, eh1⟩ : ∃ z, z = fl_setI (fl_setI h 211 st (abM (PA hm1) (qc g))) 210 st (Int32.ofNat v) := ⟨_, rfl⟩
  rw [← eh1] at e
  have R1 : RR g h1 hm1 st := by
    rw [eh1]
    exact RR.out2 G Rm (fun r j z => by rw [setI_no (by omega), setI_no (by omega)]) rfl (fun _ _ _ _ => rfl) rfl Tm1
  have T1 : TInv h1 := by
    rw [eh1]
    exact (hT.full 211 _ _ (by decide +kernel) (by decide +kernel)).a 210 _ 0 4 (by decide +kernel) (by decide +kernel) (by rw [ewi]; omega)
  obtain ⟨i, CK, hi, U, ab⟩ := able_1 G R1 (by omega) w1 (PA_1 w2)
  obtain ⟨d5, v5, h5, n5, z5, ec5, e⟩ := b_call (m2 := 42) (k := 2) (nL := 4) (as := [.ref 208, .ref (148 + 12 * v), .int (Int32.ofNat st)]) (rest := []) (L := [some (.ref 208), some (.ref (148 + 12 * v)), some (.int (Int32.ofNat st)), none]) e (show fl_code 26 77 = some (18, [((42 : Nat) : Int), ((2 : Nat) : Int)], 80) by decide +kernel) rfl (by decide +kernel) rfl rfl rfl
  obtain ⟨d6, v6, h6, n6, z6, ec6, e2⟩ := b_call (m2 := 158) (k := 1) (nL := 6) (as := [.ref 223, .int (Int32.ofNat v)]) (rest := []) (L := [some (.ref 223), some (.int (Int32.ofNat v)), none, none, none, none]) e2 (show fl_code 206 141 = some (18, [((158 : Nat) : Int), ((1 : Nat) : Int)], 144) by decide +kernel) rfl (by decide +kernel) rfl rfl rfl
  obtain ⟨h2, hm2, y1, y2, R2⟩ := RR.step G R1 T1 I1 w1 hi CK U ab st9 ec5 ec6
  obtain ⟨m1, u1, u2, u3⟩ := x_do T1 w5 st9
  have k1 := u1 _ _ ec5
  rw [y1] at k1
  obtain ⟨-, k2, -⟩ := tri k1
  subst k2
  obtain ⟨b1, s1, s2, s3, s4, -⟩ := c_does2 Tm1 I1 (c := (v : Int)) (by omega) (by omega) (PA_1 w2) (by
    rw [rd15, Rm.1.2.2.1, i32n (by omega)]
    omega)
  have k3 := ev_det ec6 (show Ev 8 158 (0, [some (.ref 223), some (.int (Int32.ofNat v)), none, none, none, none], [], hm1, fl_tot) _ from by
    have := s1 8 (Nat.le_refl _)
    rw [rv31] at this
    exact this)
  rw [y2] at k3
  obtain ⟨-, k4, -⟩ := tri k3
  subst k4
  have DF := s3.fr
  -- on
  obtain ⟨x1, x2, x3⟩ := tri y1
  rw [x1, x2, x3] at e
  have e : Ev d 26 (80, [some (.ref 208), some (.ref 219), some (.int (abM (PA hm1) (qc g))), some (.int (Int32.ofNat st)), some (.int (Int32.ofNat v))], [], h2, fl_tot) r := e
  obtain ⟨x1, x2, x3⟩ := tri y2
  rw [x1, x2, x3] at e2
  have e2 : Ev d2 206 (144, [some (.ref 223), some (.int mo), some (.int (Int32.ofNat fo)), some (.int rs), some (.int mr), some (.int (Int32.ofInt (cntA hm 0))), some (.int (Int32.ofNat st))], [], hm2, fl_tot) r2 := e2
  have e := y_run_4 R2.1.1.1 e
  rw [o32 (by omega)] at e
  obtain ⟨d7, v7, h7, n7, z7, ec7, e⟩ := b_call (m2 := 35) (k := 1) (nL := 4) (as := [.ref 208, .int (Int32.ofNat (st + 1))]) (rest := []) (L := [some (.ref 208), some (.int (Int32.ofNat (st + 1))), none, none]) e (show fl_code 26 85 = some (18, [((35 : Nat) : Int), ((1 : Nat) : Int)], 88) by decide +kernel) rfl (by decide +kernel) rfl rfl rfl
  obtain ⟨x1, x2, x3⟩ := tri (x_find G R2 s4 (by omega) ec7)
  rw [x1, x2, x3] at e
  have e : Ev d 26 (88, [some (.ref 208), some (.ref 219), some (.int (abM (PA hm1) (qc g))), some (.int (Int32.ofNat (st + 1))), some (.int (Int32.ofNat v))], [.int (abM (PA hm2) (qc g))], h2, fl_tot) r := e
  have e2 := z_ex_6 R2.1.2.1.1 e2
  obtain ⟨d8, v8, h8, n8, z8, ec8, e2⟩ := b_call (m2 := 207) (k := 0) (nL := 3) (as := [.ref 223]) (rest := []) (L := [some (.ref 223), none, none]) e2 (show fl_code 206 145 = some (18, [((207 : Nat) : Int), ((0 : Nat) : Int)], 148) by decide +kernel) rfl (by decide +kernel) rfl rfl rfl
  obtain ⟨x1, x2, x3⟩ := tri (ev_det ec8 (show Ev 6 207 (0, [some (.ref 223), none, none], [], hm2, fl_tot) _ from by
    have := c_ableMany s2.1 (fun c q1 q2 => s4.ab s2.1 q1 q2) 6 (Nat.le_refl _)
    rw [rv31] at this
    exact this))
  rw [x1, x2, x3] at e2
  have e2 : Ev d2 206 (148, [some (.ref 223), some (.int mo), some (.int (Int32.ofNat fo)), some (.int rs), some (.int mr), some (.int (Int32.ofInt (cntA hm 0))), some (.int (Int32.ofNat st))], [.int (Int32.ofInt (cntA hm2 0))], hm2, fl_tot) r2 := e2
  have k90 : ∀ j : Nat, rd 90 (j : Int) hm2 = rd 90 (j : Int) hm1 := fun j => DF.k 90 _ rfl
  have k91 : ∀ j : Nat, rd 91 (j : Int) hm2 = rd 91 (j : Int) hm1 := fun j => DF.k 91 _ rfl
  have chs2 : ∀ i : Int, 0 ≤ i → i < st → rd 90 i hm2 = rd 90 i hm1 := fun i _ _ => DF.k 90 _ rfl
  have e90 : rd 90 (st : Int) hm2 = W.toInt := by rw [k90, rd282, m90, if_pos rfl]
  have f1 : ∀ j : Nat, h2.1 210 j = h1.1 210 j ∧ h2.1 211 j = h1.1 211 j ∧ h2.1 219 j = h1.1 219 j := fun j => ⟨congrFun (u3 210 (by decide +kernel)).1 j, congrFun (u3 211 (by decide +kernel)).1 j, congrFun (u3 219 (by decide +kernel)).1 j⟩
  have g1 : ∀ j : Nat, h1.1 219 j = h.1 219 j := fun j => by rw [eh1, setI_no (by omega), setI_no (by omega)]
  have g2 : ∀ j : Nat, j ≠ st → h1.1 210 j = h.1 210 j ∧ h1.1 211 j = h.1 211 j := fun j z => by rw [eh1, setI_no (by omega), setI_no (by omega), setI_no (by omega), setI_no (by omega)]; exact ⟨rfl, rfl⟩
  have g3 : h1.1 210 st = Int32.ofNat v ∧ h1.1 211 st = abM (PA hm1) (qc g) := by rw [eh1, setI_at, setI_no (by omega), setI_at]; exact ⟨rfl, rfl⟩
  have Re2 : Rea b (chF hm2) (st + 1) hm2 := by
    refine ⟨s2.1, s4, hm1, (v : Int), hm2, Re1.ch chs2, ?_, ?_, s3, Fq.refl hm2⟩
    · show isNth hm1 (rd 90 (st : Int) hm2) v
      rw [e90]
      exact v1
    · have q1 := ableV_now v1.2.2.1
      have q2 := (I1.2.1 (v : Int) v1.1 v1.2.1).1
      omega
  have AR2 : ARx b g h2 hm2 (st + 1) := fun j hj => by
    by_cases z : j = st
    · subst z
      refine ⟨hm1, v, Re1.ch chs2, r41, ?_, ?_, ?_, ?_, ?_⟩
      · rw [e90]; exact v1
      · rw [(f1 j).1]; exact g3.1
      · rw [(f1 j).2.1]; exact g3.2
      · rw [e90, ec]; exact hW.2
      · rw [k91, rd283, m91, kc (by omega) (by omega), ec]
    · obtain ⟨gj, c, a1, a2, a3, a4, a5, a6, a7⟩ := A j (by omega)
      have q90 : rd 90 (j : Int) hm2 = rd 90 (j : Int) hm := by rw [k90, rd282, rd282, m90, if_neg z]
      have q91 : rd 91 (j : Int) hm2 = rd 91 (j : Int) hm := by rw [k91, rd283, rd283, m91' j z]
      refine ⟨gj, c, Rea.ch (fun i q1 q2 => by rw [chs2 i q1 (by omega), chs i q1 (by omega)]) a1, a2, by rw [q90]; exact a3, by rw [(f1 j).1, (g2 j z).1]; exact a4, by rw [(f1 j).2.1, (g2 j z).2]; exact a5, by rw [q90]; exact a6, by rw [q91]; exact a7⟩
  have PL2 : PLx b g h2 hm2 (st + 1) fo := Pl.fr (by omega) (fun j => by rw [(f1 j).2.2, g1]) (fun j hj => by
    rw [k90, rd282, rd282, m90]
    by_cases z : j = st
    · rw [if_pos z, z, hf (by omega)]
    · rw [if_neg z])
  exact ⟨h2, hm2, _, ⟨R2, u2, s4, Re2, AR2, PL2, Fb.trans ((F1.wide rfl rfl).trans (DF.wide rfl rfl))⟩, y_runp_5 R2.1.1.1 e, z_ex_7 R2.1.2.1.1 e2⟩
/-- a whole run of explore's, both sides -/
theorem ex_in {b g : Hp} (G : GS g) {fo : Nat} {mo rs mr : Int32} (hfo : fo ≤ 600) : ∀ (f : Nat) {h hm : Hp} {st d d2 : Nat} {ol o6 : Option Value} {r r2 : Option Value × Hp × Nat}, st ≤ 600 → 600 - st < f → EXR b g h hm st fo → Ev d 26 (20, [some (.ref 208), some (.ref 219), some (.int (abM (PA hm) (qc g))), some (.int (Int32.ofNat st)), ol], [], h, fl_tot) r → Ev d2 206 (75, [some (.ref 223), some (.int mo), some (.int (Int32.ofNat fo)), some (.int rs), some (.int mr), some (.int (Int32.ofInt (cntA hm 0))), o6], [], hm, fl_tot) r2 → ∃ (h' hm' : Hp) (st' : Nat) (v n5 : Int32) (o6' : Option Value), st' ≤ 600 ∧ (0 ≤ v.toInt ∧ v.toInt ≤ 2) ∧ r = (none, fl_setI (fl_setI h' 208 5 (Int32.ofNat st')) 208 6 v, fl_tot) ∧ EXR b g h' hm' st' fo ∧ Ev d2 206 (163, [some (.ref 223), some (.int mo), some (.int (Int32.ofNat fo)), some (.int rs), some (.int mr), some (.int n5), o6'], [.int rs, .ref 223], fl_setI hm' 223 14 v, fl_tot) r2
  | 0, _, _, _, _, _, _, _, _, _, _, hf, _, _, _ => by omega
  | f + 1, h, hm, st, d, d2, ol, o6, r, r2, st9, hf, E, e, e2 => by
    have R := E.1
    have I := E.2.2.1
    have Pl := E.2.2.2.2.2.1
    have hTm := R.1.2.2.2.2
    have est : (Int32.ofNat st).toInt = st := i32n (by omega)
    have esn : (Int32.ofNat st).toNatClampNeg = st := o32c (by omega)
    have efo : (Int32.ofNat fo).toInt = fo := i32n (by omega)
    have cb := cntA_bd hm 0
    have ecn : (Int32.ofInt (cntA hm 0)).toInt = cntA hm 0 := kc (by omega) (by omega)
    have r4 := (r4_of G R.1.2.1).2
    have q5 : qc g ≤ 5 := G.1.2.2.1
    have fin : ∀ {oc' ol' o6' : Option Value} {n5 : Int32}, Ev d 26 (92, [some (.ref 208), oc', some (.int (abM (PA hm) (qc g))), some (.int (Int32.ofNat st)), ol'], [], h, fl_tot) r → Ev d2 206 (153, [some (.ref 223), some (.int mo), some (.int (Int32.ofNat fo)), some (.int rs), some (.int mr), some (.int n5), o6'], [], hm, fl_tot) r2 → ∃ (h' hm' : Hp) (st' : Nat) (v n5 : Int32) (o6' : Option Value), st' ≤ 600 ∧ (0 ≤ v.toInt ∧ v.toInt ≤ 2) ∧ r = (none, fl_setI (fl_setI h' 208 5 (Int32.ofNat st')) 208 6 v, fl_tot) ∧ EXR b g h' hm' st' fo ∧ Ev d2 206 (163, [some (.ref 223), some (.int mo), some (.int (Int32.ofNat fo)), some (.int rs), some (.int mr), some (.int n5), o6'], [.int rs, .ref 223], fl_setI hm' 223 14 v, fl_tot) r2 := fun {oc' ol' o6' n5} a z => by
      have z := z_ex_8 R.1.2.1.1 z
      obtain ⟨d3, v3, h3, n3, z3, ec3, z⟩ := b_call (m2 := 178) (k := 0) (nL := 2) (as := [.ref 223]) (rest := [.ref 223]) (L := [some (.ref 223), none]) z (show fl_code 206 155 = some (18, [((178 : Nat) : Int), ((0 : Nat) : Int)], 158) by decide +kernel) rfl (by decide +kernel) rfl rfl rfl
      obtain ⟨v, bv, w, x⟩ := end_both G R I st9 a ec3
      obtain ⟨x1, x2, x3⟩ := tri w
      rw [x1, x2, x3] at z
      have z : Ev d2 206 (158, [some (.ref 223), some (.int mo), some (.int (Int32.ofNat fo)), some (.int rs), some (.int mr), some (.int n5), o6'], [.int v, .ref 223], hm, fl_tot) r2 := z
      exact ⟨h, hm, st, v, n5, o6', st9, bv, x, E, z_ex_9 R.1.2.1.1 z⟩
    by_cases c0 : cntA hm 0 = 0
    · -- nobody is able
      have nob : ∀ j, j < qc g → PA hm j = false := fun j hj => by
        cases y : PA hm j
        · rfl
        · exfalso
          have s := cntA_step (h := hm) (c := (j : Int)) (by omega) (by omega)
          have m := cntA_mono (h := hm) (c := 0) (c' := (j : Int)) (by omega)
          have p := (cntA_bd hm ((j : Int) + 1)).1
          rw [PA_1 y] at s
          omega
      have a0 : (abM (PA hm) (qc g)).toInt = 0 := by rw [abM_0 _ nob]; decide
      have zz : Ev d2 206 (153, [some (.ref 223), some (.int mo), some (.int (Int32.ofNat fo)), some (.int rs), some (.int mr), some (.int (Int32.ofInt (cntA hm 0))), o6], [], hm, fl_tot) r2 := by
        rcases z_ex_5 R.1.2.1.1 e2 with ⟨-, z⟩ | ⟨q, -⟩ | ⟨q, -⟩ | ⟨q, -⟩
        · exact z
        all_goals omega
      rcases y_run_2 R.1.1.1 e with ⟨-, e⟩ | ⟨-, e⟩
      · exact fin e zz
      · rcases y_runp_c R.1.1.1 e with ⟨-, e⟩ | ⟨q, -⟩ | ⟨q, -⟩
        · exact fin e zz
        · exact absurd a0 q
        · exact absurd a0 q
    · -- somebody is
      have an : (abM (PA hm) (qc g)).toInt ≠ 0 := by
        have som : ∃ c, c < qc g ∧ PA hm c = true := by
          have K : ∀ k a : Nat, a + k = qc g → cntA hm (a : Int) ≠ 0 → ∃ c, c < qc g ∧ PA hm c = true := by
            intro k
            induction k with
            | zero =>
              intro a h1 h2
              exact absurd (cntA_end (by omega)) h2
            | succ k ih =>
              intro a h1 h2
              cases y : PA hm a
              · have s := cntA_step (h := hm) (c := (a : Int)) (by omega) (by omega)
                rw [PA_0 y] at s
                exact ih (a + 1) (by omega) (by rw [show ((a + 1 : Nat) : Int) = (a : Int) + 1 by omega]; omega)
              · exact ⟨a, by omega, y⟩
          exact K (qc g) 0 (by omega) c0
        obtain ⟨c, c1, c2⟩ := som
        obtain ⟨c0', b1, b2, b3⟩ := least_of c c1 c2
        exact (cho q5 b1 b2 b3).2.1
      by_cases s6 : st < 600
      · have e : Ev d 26 (45, [some (.ref 208), some (.ref 219), some (.int (abM (PA hm) (qc g))), some (.int (Int32.ofNat st)), ol], [.int (abM (PA hm) (qc g)), .int (h.1 219 st)], h, fl_tot) r := by
          rcases y_run_2 R.1.1.1 e with ⟨q, -⟩ | ⟨-, e⟩
          · omega
          · have len : (Int32.ofNat (fl_len h 219)).toInt = 600 := by
              rw [show fl_len h 219 = 600 from rfl]
              decide
            rcases y_runp_c R.1.1.1 e with ⟨q, -⟩ | ⟨-, q, -⟩ | ⟨-, -, e⟩
            · exact absurd q an
            · omega
            · rw [esn] at e
              exact e
        have e15 : hm.1 223 15 = Int32.ofNat st := R.1.2.2.1
        rcases z_ex_5 R.1.2.1.1 e2 with ⟨q, -⟩ | ⟨-, q, -⟩ | ⟨-, -, q, z⟩ | ⟨-, -, q, z⟩
        · omega
        · rw [e15] at q
          omega
        · rw [e15, est, efo] at q
          rw [e15, esn] at z
          obtain ⟨h', hm', ol', E', e', e2'⟩ := ex_s G E s6 (W := Int32.ofInt 0) (by rw [show (Int32.ofInt 0).toInt = 0 from rfl]; omega) (fun y => by omega) (fun _ => rfl) e z
          exact ex_in G hfo f (by omega) (by omega) E' e' e2'
        · rw [e15, est, efo] at q
          rw [e15, esn] at z
          have b90 : 0 ≤ (hm.1 282 st).toInt ∧ (hm.1 282 st).toInt ≤ 4 := TI.rng hTm 90 600 0 4 (by decide +kernel) (by decide) (by decide) (i := st) s6
          obtain ⟨gj, c, a1, a2, a3, a4, a5⟩ := Pl.1 st (Nat.le_refl _) (by omega)
          have ecg : cntA hm 0 = cntA gj 0 := Rea.cnt a1 E.2.2.2.1
          rw [rd282] at a5
          obtain ⟨h', hm', ol', E', e', e2'⟩ := ex_s G E s6 (W := hm.1 282 st) (by omega) (fun _ => rfl) (fun y => by omega) e z
          exact ex_in G hfo f (by omega) (by omega) E' e' e2'
      · have zz : Ev d2 206 (153, [some (.ref 223), some (.int mo), some (.int (Int32.ofNat fo)), some (.int rs), some (.int mr), some (.int (Int32.ofInt (cntA hm 0))), o6], [], hm, fl_tot) r2 := by
          rcases z_ex_5 R.1.2.1.1 e2 with ⟨-, z⟩ | ⟨-, -, z⟩ | ⟨-, q, -⟩ | ⟨-, q, -⟩
          · exact z
          · exact z
          · rw [R.1.2.2.1] at q
            omega
          · rw [R.1.2.2.1] at q
            omega
        rcases y_run_2 R.1.1.1 e with ⟨-, e⟩ | ⟨q, -⟩
        · exact fin e zz
        · omega
