set_option maxRecDepth 20000
/-! SLOTS THAT A METHOD NEVER WRITES -/
def sfOp (ci k : Nat) (S : List Nat) (q : Smi) : Bool := match q.1, q.2.1 with
  | 10, [a, b] => !(decide (a.toNat = ci) && decide (b.toNat = k))
  | 18, [m, _] => S.contains m.toNat
  | 19, [m, _] => S.contains m.toNat
  | 20, [m, _] => S.contains m.toNat
  | _, _ => true
def sfChk (ci k : Nat) (S : List Nat) : Bool := decide (ci < 20) && S.all fun m => match sm_cs[m]? with
  | some l => l.all (fun e => sfOp ci k S e.2)
  | none => true
theorem sf_code {ci k : Nat} {S : List Nat} (hS : sfChk ci k S = true) {m pc : Nat} {q : Smi} (hm : m ∈ S) (hc : fl_code m pc = some q) : sfOp ci k S q = true := by
  unfold sfChk at hS
  rw [Bool.and_eq_true] at hS
  have h := List.all_eq_true.mp hS.2 m hm
  unfold fl_code at hc
  split at hc
  · rename_i l hl
    rw [hl] at h
    have hq : ∃ p, (p, q) ∈ l := by
      clear h hl
      induction l with
      | nil => cases hc
      | cons e l ih =>
        rw [List.lookup_cons] at hc
        split at hc
        · cases hc
          exact ⟨e.1, List.mem_cons_self⟩
        · obtain ⟨p, hp⟩ := ih hc
          exact ⟨p, List.mem_cons_of_mem _ hp⟩
    obtain ⟨p, hp⟩ := hq
    exact List.all_eq_true.mp h _ hp
  · cases hc
theorem call_m {virt : Bool} {inst m n nx : Nat} {ls : List (Option Value)} {st : List Value} {h : Hp} {nc : Nat} {o : Out} (e : fl_call virt inst m n nx ls st h nc = some o) : ∃ as rest, o = .inr (.inl (m, as, rest, nx)) := by
  unfold fl_call at e
  dsimp only at e
  (repeat' split at e) <;> first
    | (cases e; done)
    | (cases e; exact ⟨_, _, rfl⟩)
theorem wI {ci k : Nat} {h : Hp} {r j : Nat} {x : Int32} (hr : (fl_lay r).1 ≠ ci ∨ k ≠ j) : ∀ r', (fl_lay r').1 = ci → (fl_setI h r j x).1 r' k = h.1 r' k := fun r' hr' => by
  show (if r' = r ∧ k = j then x else h.1 r' k) = _
  rw [if_neg]
  rintro ⟨rfl, hj⟩
  rcases hr with hr | hr
  · exact hr hr'
  · exact hr hj
theorem sf_step {ci k : Nat} {S : List Nat} {q : Smi} {c c' : Cfg} (hci : ci < 20) (hq : sfOp ci k S q = true) (hn : c.2.2.2.2 = fl_tot) (hs : fl_step q c = some (.inl c')) : c'.2.2.2.2 = fl_tot ∧ ∀ r, (fl_lay r).1 = ci → c'.2.2.2.1.1 r k = c.2.2.2.1.1 r k := by
  obtain ⟨op, a, nx⟩ := q
  obtain ⟨pc, ls, st, h, n⟩ := c
  simp only at hn
  subst hn
  by_cases h10 : op = 10
  · subst h10
    match a, st, hq, hs with
    | [x, y], v :: .ref r :: st, hq, hs =>
      have hq' : (!(decide (x.toNat = ci) && decide (y.toNat = k))) = true := hq
      simp only [Bool.not_eq_true', Bool.and_eq_false_iff, decide_eq_false_iff_not] at hq'
      simp only [fl_step] at hs
      split at hs
      · rename_i hc
        have hl : (fl_lay r).1 = x.toNat := by rw [hc.2]
        have hw : (fl_lay r).1 ≠ ci ∨ k ≠ y.toNat := by
          rcases hq' with z | z
          · exact Or.inl (by rw [hl]; exact z)
          · exact Or.inr (fun e => z e.symm)
        split at hs
        · cases hs; exact ⟨rfl, wI hw⟩
        · split at hs
          · cases hs; exact ⟨rfl, wI hw⟩
          · cases hs
        · cases hs; exact ⟨rfl, fun r _ => rfl⟩
        · cases hs; exact ⟨rfl, fun r _ => rfl⟩
        · cases hs
      · cases hs
  by_cases h12 : op = 12
  · subst h12
    match st, hs with
    | .int x :: .int i :: .ref r :: st, hs =>
      simp only [fl_step] at hs
      split at hs
      · rename_i hc
        cases hs
        exact ⟨rfl, wI (Or.inl (by rw [hc.2.1]; omega))⟩
      · cases hs
  by_cases h14 : op = 14
  · subst h14
    match st, hs with
    | .int x :: .int i :: .ref r :: st, hs =>
      simp only [fl_step] at hs
      split at hs
      · rename_i hc
        cases hs
        exact ⟨rfl, wI (Or.inl (by rw [hc.2.1]; omega))⟩
      · cases hs
  by_cases h29 : op = 29
  · subst h29
    match a, hs with
    | [x], hs =>
      simp only [fl_step] at hs
      split at hs
      · rename_i hc
        exact absurd hc.1 (Nat.lt_irrefl _)
      · cases hs
  by_cases h30 : op = 30
  · subst h30
    match a, st, hs with
    | [x], .int y :: st, hs =>
      simp only [fl_step] at hs
      split at hs
      · rename_i hc
        exact absurd hc.1 (Nat.lt_irrefl _)
      · cases hs
  by_cases h31 : op = 31
  · subst h31
    match a, st, hs with
    | [x], .int y :: st, hs =>
      simp only [fl_step] at hs
      split at hs
      · rename_i hc
        exact absurd hc.1 (Nat.lt_irrefl _)
      · cases hs
  by_cases h41 : op = 41
  · subst h41
    match st, hs with
    | .int x :: .int dp :: .ref b :: .int sp :: .ref r :: st, hs =>
      simp only [fl_step] at hs
      split at hs
      · rename_i hc
        cases hs
        refine ⟨rfl, fun r' hr' => ?_⟩
        show (if r' = b then _ else h.1 r' k) = _
        rw [if_neg]
        rintro rfl
        have := hc.2.2.2.2.1
        omega
      · cases hs
  clear hq
  unfold fl_step at hs
  simp only at hs
  split at hs
  all_goals first
    | (exfalso; first | exact h10 rfl | exact h12 rfl | exact h14 rfl | exact h29 rfl | exact h30 rfl | exact h31 rfl | exact h41 rfl)
    | (obtain ⟨as, rest, e⟩ := call_m hs; cases e; done)
    | ((repeat' split at hs) <;> first
      | (cases hs; done)
      | (obtain ⟨as, rest, e⟩ := call_m hs; cases e; done)
      | (cases hs; exact ⟨rfl, fun r _ => rfl⟩))
theorem sf_call {ci k : Nat} {S : List Nat} {q : Smi} {c : Cfg} {m2 nx : Nat} {as rest : List Value} (hq : sfOp ci k S q = true) (hs : fl_step q c = some (.inr (.inl (m2, as, rest, nx)))) : m2 ∈ S := by
  obtain ⟨op, a, nx1⟩ := q
  obtain ⟨pc, ls, st, h, n⟩ := c
  have go : ∀ {virt : Bool} {inst m k' : Nat}, S.contains m = true → fl_call virt inst m k' nx1 ls st h n = some (.inr (.inl (m2, as, rest, nx))) → m2 ∈ S := fun hm e => by
    obtain ⟨as', rest', e'⟩ := call_m e
    cases e'
    exact List.contains_iff_mem.mp hm
  by_cases h18 : op = 18
  · subst h18
    match a, hq, hs with
    | [m, k'], hq, hs => exact go hq hs
  by_cases h19 : op = 19
  · subst h19
    match a, hq, hs with
    | [m, k'], hq, hs => exact go hq hs
  by_cases h20 : op = 20
  · subst h20
    match a, hq, hs with
    | [m, k'], hq, hs => exact go hq hs
  exfalso
  clear hq
  unfold fl_step at hs
  simp only at hs
  split at hs
  all_goals first
    | (exact h18 rfl)
    | (exact h19 rfl)
    | (exact h20 rfl)
    | ((repeat' split at hs) <;> (cases hs; done))
theorem sf_run {ci k : Nat} {S : List Nat} (hS : sfChk ci k S = true) : ∀ (f d m : Nat) (c : Cfg) (v : Option Value) (h : Hp) (n : Nat), m ∈ S → c.2.2.2.2 = fl_tot → fl_run f d m c = some (v, h, n) → n = fl_tot ∧ ∀ r, (fl_lay r).1 = ci → h.1 r k = c.2.2.2.1.1 r k := by
  have hci : ci < 20 := by
    unfold sfChk at hS
    rw [Bool.and_eq_true, decide_eq_true_eq] at hS
    exact hS.1
  intro f
  induction f with
  | zero => intro d m c v h n hm hn e; cases e
  | succ f ih =>
    intro d m c v h n hm hn e
    unfold fl_run at e
    split at e
    · cases e
    · rename_i q hq
      have hop := sf_code hS hm hq
      split at e
      · cases e
      · rename_i c1 hs
        obtain ⟨s1, s2⟩ := sf_step hci hop hn hs
        obtain ⟨r1, r2⟩ := ih _ _ _ _ _ _ hm s1 e
        exact ⟨r1, fun r hr => (r2 r hr).trans (s2 r hr)⟩
      · cases e
        exact ⟨hn, fun r _ => rfl⟩
      · rename_i m2 as rest nx hs
        have hm2 := sf_call hop hs
        split at e
        · cases e
        · split at e
          · cases e
          · split at e
            · split at e
              · cases e
              · rename_i v2 h2 n2 hr
                obtain ⟨a1, a2⟩ := ih _ _ _ _ _ _ hm2 (by exact hn) hr
                obtain ⟨r1, r2⟩ := ih _ _ _ _ _ _ hm (by exact a1) e
                exact ⟨r1, fun r hr' => (r2 r hr').trans (a2 r hr')⟩
            · cases e
theorem sf_ev {ci k : Nat} {S : List Nat} (hS : sfChk ci k S = true) {d m : Nat} {pc : Nat} {ls : List (Option Value)} {st : List Value} {h h' : Hp} {v : Option Value} {n : Nat} (hm : S.contains m = true) (e : Ev d m (pc, ls, st, h, fl_tot) (v, h', n)) : ∀ r, (fl_lay r).1 = ci → h'.1 r k = h.1 r k := by
  obtain ⟨f, hf⟩ := e
  exact (sf_run hS f d m _ v h' n (List.contains_iff_mem.mp hm) rfl hf).2
theorem ev_det {d d' m : Nat} {c : Cfg} {r r' : Option Value × Hp × Nat} (e : Ev d m c r) (e' : Ev d' m c r') : r = r' := by
  obtain ⟨f, hf⟩ := e
  obtain ⟨f', hf'⟩ := e'
  have h1 := fl_run_more _ _ _ _ _ hf (f + f') (d + d') (by omega) (by omega)
  have h2 := fl_run_more _ _ _ _ _ hf' (f + f') (d + d') (by omega) (by omega)
  exact Option.some.inj (h1.symm.trans h2)
/-! A COUNT OF BOTH SIDES: the desk's slot k, the reference's field f -/
def PEk (k f : Nat) (h : Hp) : Prop := (h.1 (xc 2) k).toInt = (h.1 (xc 31) f).toInt
theorem lay2 : (fl_lay (xc 2)).1 = 4 := by decide +kernel
theorem lay31 : (fl_lay (xc 31)).1 = 10 := by decide +kernel
theorem kd2 : ab_kd (xc 2) = 2 := by decide +kernel
theorem kd31 : ab_kd (xc 31) = 31 := by decide +kernel
theorem PEk.x {k f : Nat} {h h' : Hp} {d m : Nat} {ls : List (Option Value)} {v : Option Value} {S : List Nat} (P : PEk k f h) (e : Ev d m (0, ls, [], h, fl_tot) (v, h', fl_tot)) (hm : S.contains m = true) (c2 : sfChk 4 k S = true) (fr : ∀ r, 31 ≤ ab_kd r → h'.1 r = h.1 r) : PEk k f h' := by
  unfold PEk at P ⊢
  rw [sf_ev c2 hm e _ lay2, fr (xc 31) (by rw [kd31]; omega)]
  exact P
theorem PEk.m {k f : Nat} {h h' : Hp} {d m : Nat} {ls : List (Option Value)} {v : Option Value} {S : List Nat} (P : PEk k f h) (e : Ev d m (0, ls, [], h, fl_tot) (v, h', fl_tot)) (hm : S.contains m = true) (c0 : sfChk 10 f S = true) (R : Rf h h') : PEk k f h' := by
  unfold PEk at P ⊢
  rw [R.2 (xc 2) (by rw [kd2]; omega), sf_ev c0 hm e _ lay31]
  exact P
/-! BOTH CALLS OF A CASE, AND WHAT THEY COME TO -/
def XEv (m k : Nat) (i : Int32) (xs : Nat → Int32) (h : Hp) (w : Value) (h' : Hp) : Prop := ∃ d y, sm_ms[m]? = some y ∧ Ev d m (0, fl_enter y.2.2.1 (.ref 0 :: (lwV k i xs).map Value.int), [], h, fl_tot) (some w, h', fl_tot)
def MEv (m k : Nat) (i : Int32) (xs : Nat → Int32) (h : Hp) (w : Value) (h' : Hp) : Prop := ∃ d y, sm_ms[m]? = some y ∧ Ev d m (0, fl_enter y.2.2.1 (rv 31 :: (lwV k i xs).map Value.int), [], h, fl_tot) (some w, h', fl_tot)
theorem XEv.eq {m k : Nat} {i : Int32} {xs : Nat → Int32} {h h' h2 : Hp} {w w2 : Value} {d nL : Nat} (e : XEv m k i xs h w h') (hn : ((sm_ms[m]?).map fun y => y.2.2.1) = some nL) (e2 : Ev d m (0, fl_enter nL (.ref 0 :: (lwV k i xs).map Value.int), [], h, fl_tot) (some w2, h2, fl_tot)) : w = w2 ∧ h' = h2 := by
  obtain ⟨d', y, y1, y2⟩ := e
  rw [y1] at hn
  have hn' : y.2.2.1 = nL := Option.some.inj hn
  rw [hn'] at y2
  have z := ev_det y2 e2
  exact ⟨Option.some.inj (congrArg (fun r => r.1) z), congrArg (fun r => r.2.1) z⟩
theorem MEv.eq {m k : Nat} {i : Int32} {xs : Nat → Int32} {h h' h2 : Hp} {w w2 : Value} {d nL : Nat} (e : MEv m k i xs h w h') (hn : ((sm_ms[m]?).map fun y => y.2.2.1) = some nL) (e2 : Ev d m (0, fl_enter nL (rv 31 :: (lwV k i xs).map Value.int), [], h, fl_tot) (some w2, h2, fl_tot)) : w = w2 ∧ h' = h2 := by
  obtain ⟨d', y, y1, y2⟩ := e
  rw [y1] at hn
  have hn' : y.2.2.1 = nL := Option.some.inj hn
  rw [hn'] at y2
  have z := ev_det y2 e2
  exact ⟨Option.some.inj (congrArg (fun r => r.1) z), congrArg (fun r => r.2.1) z⟩
/-- a call of the class's -/
theorem lc_xe {L : Nat} {xs : Nat → Int32} {h : Hp} (I : LwI L xs h) (i : Int32) {j k m pc nx : Nat} {lg : Bool} (hc : ctP j k m lg = true) (hq : fl_code 214 pc = some (18, [(m : Int), (k : Int)], nx)) (hk : lwK m k 0 = true) : ∃ w h', XEv m k i xs h w h' ∧ (∀ r, 31 ≤ ab_kd r → h'.1 r = h.1 r) ∧ LwI L xs h' ∧ ((lg = false → ∃ x, w = .int x) ∧ (lg = true → ∃ x, w = .long x)) ∧ ∀ d r rest, 20 ≤ d → fl_cat rest ≤ 8 → Ev d 214 (nx, lwL i, w :: rest, h', fl_tot) r → Ev d 214 (pc, lwL i, (lwA k (0 : Nat)).map (lwC i xs) ++ rest, h, fl_tot) r := by
  unfold ctP at hc
  split at hc
  · rename_i c hct
    simp only [Bool.and_eq_true, decide_eq_true_eq] at hc
    obtain ⟨⟨⟨⟨⟨c1, c2⟩, c3⟩, c4⟩, c5⟩, c6⟩ := hc
    have hlen : (lwV k i xs).length = k := by unfold lwV; simp
    obtain ⟨y, y1, y2, v, h', g1, g2, g3, g4, -⟩ := cv_all hct (.ref 0 :: (lwV k i xs).map Value.int) h I.1 (by
      rw [c3]
      refine ⟨_, _, rfl, ⟨0, rfl, by decide +kernel⟩, ?_⟩
      have := aOK_ints (lwV k i xs)
      rw [hlen] at this
      exact this) (fun p hp => by
      rw [List.isEmpty_iff] at c4
      rw [c4] at hp
      cases hp)
    have hv : ∃ w, v = some w ∧ ((lg = false → ∃ x, w = .int x) ∧ (lg = true → ∃ x, w = .long x)) := by
      unfold retOK at g3
      cases lg with
      | true =>
        rw [if_neg (by rw [c6]; decide)] at g3
        obtain ⟨w, rfl, hw⟩ := g3
        refine ⟨w, rfl, fun z => (by cases z), fun _ => ?_⟩
        unfold valOK at hw
        rw [c6] at hw
        exact hw
      | false =>
        rw [if_neg (by rw [c6]; decide)] at g3
        obtain ⟨w, rfl, hw⟩ := g3
        refine ⟨w, rfl, fun _ => ?_, fun z => (by cases z)⟩
        unfold valOK at hw
        rw [c6] at hw
        obtain ⟨x, hx, -⟩ := hw
        exact ⟨x, hx⟩
    obtain ⟨w, rfl, hw⟩ := hv
    rw [c1] at y1 g1
    refine ⟨w, h', ⟨_, y, y1, g1⟩, fun r hr => (g4 r (fun z => by
      have := of_decide_eq_true (List.all_eq_true.mp c5 _ z)
      omega)).1, Fr.lw c5 g4 g2 I, hw, fun d r rest hd hr e => ?_⟩
    obtain ⟨d, rfl⟩ : ∃ d', d = d' + 1 := ⟨d - 1, by omega⟩
    exact lc_call hq hk hr y1 y2 (g1.mono (by omega)) e
  · cases hc
/-- a call of the reference's -/
theorem lc_me {L : Nat} {xs : Nat → Int32} {h : Hp} (I : LwI L xs h) (i : Int32) {k m nL pc nx : Nat} {lg : Bool} (P : PV m nL k) (hr : rt_all m (if lg then 23 else 22) = true) (hy : ((sm_ms[m]?).map fun y => y.2.2.1) = some nL) (hl : k + 1 ≤ nL) (hq : fl_code 214 pc = some (18, [(m : Int), (k : Int)], nx)) (hk : lwK m k (xc 31) = true) : ∃ w h', MEv m k i xs h w h' ∧ Rf h h' ∧ LwI L xs h' ∧ ((lg = false → ∃ x, w = .int x) ∧ (lg = true → ∃ x, w = .long x)) ∧ ∀ d r rest, 20 ≤ d → fl_cat rest ≤ 8 → Ev d 214 (nx, lwL i, w :: rest, h', fl_tot) r → Ev d 214 (pc, lwL i, (lwA k (xc 31 : Nat)).map (lwC i xs) ++ rest, h, fl_tot) r := by
  have hlen : (lwV k i xs).length = k := by unfold lwV; simp
  obtain ⟨v, h', u1, u2, u3⟩ := P h I.1 I.2.1 (lwV k i xs) hlen
  have hrt := rt_ev hr (u1 14 (Nat.le_refl _))
  have hv : ∃ w, v = some w ∧ ((lg = false → ∃ x, w = .int x) ∧ (lg = true → ∃ x, w = .long x)) := by
    cases lg with
    | true =>
      obtain ⟨x, rfl⟩ := hrt.2 rfl
      exact ⟨_, rfl, fun z => (by cases z), fun _ => ⟨x, rfl⟩⟩
    | false =>
      obtain ⟨x, rfl⟩ := hrt.1 rfl
      exact ⟨_, rfl, fun _ => ⟨x, rfl⟩, fun z => by cases z⟩
  obtain ⟨w, rfl, hw⟩ := hv
  cases hms : sm_ms[m]? with
  | none => rw [hms] at hy; cases hy
  | some y =>
    rw [hms] at hy
    have hy2 : y.2.2.1 = nL := Option.some.inj hy
    have hargs : ∀ vs : List Int32, (fl_args (vs.map Value.int)).length = vs.length := fun vs => by
      induction vs with
      | nil => rfl
      | cons x vs ih =>
        show (some (Value.int x) :: fl_args (vs.map Value.int)).length = _
        rw [List.length_cons, List.length_cons, ih]
    refine ⟨w, h', ⟨14, y, hms, by rw [hy2]; exact u1 14 (Nat.le_refl _)⟩, u2.2, Nx.lw u2 u3 I, hw, fun d r rest hd hr e => ?_⟩
    obtain ⟨d, rfl⟩ : ∃ d', d = d' + 1 := ⟨d - 1, by omega⟩
    refine lc_call (v := some w) hq hk hr hms ?_ ?_ e
    · show (some (Value.ref (xc 31)) :: fl_args ((lwV k i xs).map Value.int)).length ≤ _
      rw [List.length_cons, hargs, hlen, hy2]
      exact hl
    · rw [hy2]
      exact u1 d (by omega)
/-- both calls of a case, their answers thrown away; the count stays alike -/
theorem lc_twoE {kk ff : Nat} {L : Nat} {xs : Nat → Int32} {h : Hp} (I : LwI L xs h) (Q : PEk kk ff h) {i : Int32} (B : LwB L i) {j k mx mm nL pc0 pc1 nx1 q1 pc2 nx2 q2 : Nat} {lg : Bool} {zz : Nat} (Sx Sm : List Nat) (P : PV mm nL k) (w1 : lc_walk 60 pc0 [] = some (pc1, lwA k (0 : Nat))) (a1 : fl_code 214 pc1 = some (18, [(mx : Int), (k : Int)], nx1)) (hc : ctP j k mx lg = true) (hk1 : lwK mx k 0 = true) (p1 : fl_code 214 nx1 = some (popO lg, [], q1))
    (w2 : lc_walk 60 q1 [] = some (pc2, lwA k (xc 31 : Nat))) (a2 : fl_code 214 pc2 = some (18, [(mm : Int), (k : Int)], nx2)) (hr : rt_all mm (if lg then 23 else 22) = true) (hy : ((sm_ms[mm]?).map fun y => y.2.2.1) = some nL) (hl : k + 1 ≤ nL) (hk2 : lwK mm k (xc 31) = true) (p2 : fl_code 214 nx2 = some (popO lg, [], q2)) (a3 : fl_code 214 q2 = some (8, [816], zz))
    (f1 : (Sx.contains mx && sfChk 4 kk Sx) = true) (f2 : (Sm.contains mm && sfChk 10 ff Sm) = true) :
    ∃ h', LwI L xs h' ∧ PEk kk ff h' ∧ ∀ d r, 20 ≤ d → Ev d 214 (816, lwL i, [], h', fl_tot) r → Ev d 214 (pc0, lwL i, [], h, fl_tot) r := by
  rw [Bool.and_eq_true] at f1 f2
  obtain ⟨w, h1, ⟨d1, y1, _, e1⟩, fr1, I1, hw, K1⟩ := lc_xe I i hc a1 hk1
  obtain ⟨v, h2, ⟨d2, y2, _, e2⟩, fr2, I2, hv, K2⟩ := lc_me I1 i P hr hy hl a2 hk2
  refine ⟨h2, I2, (Q.x e1 f1.1 f1.2 fr1).m e2 f2.1 f2.2 fr2, fun d r hd e => ?_⟩
  have g3 : Ev d 214 (q2, lwL i, [], h2, fl_tot) r := Ev.step (c' := (816, lwL i, [], h2, fl_tot)) a3 rfl e
  have g2 := lc_walk_ok I1 B 60 q1 [] pc2 _ [] w2 d r (K2 d r [] hd (by decide) (lc_pop hv p2 g3))
  exact lc_walk_ok I B 60 pc0 [] pc1 _ [] w1 d r (K1 d r [] hd (by decide) (lc_pop hw p1 g2))
