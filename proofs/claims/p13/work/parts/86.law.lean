set_option maxRecDepth 20000
/-! THE LAW'S OWN CODE: its calls' arguments, by a small walk -/
/-- a value as the law's code makes it: a number, the place i and more, the script there, a cell -/
abbrev SLV : Type := Nat × Int
def lwC (i : Int32) (xs : Nat → Int32) (a : SLV) : Value := match a.1 with
  | 0 => .int (Int32.ofInt a.2)
  | 1 => .int (i + Int32.ofInt a.2)
  | 2 => .int (xs (i.toNatClampNeg + a.2.toNat))
  | _ => .ref a.2.toNat
def lc_walk : Nat → Nat → List SLV → Option (Nat × List SLV)
  | 0, _, _ => none
  | f + 1, pc, st => match fl_code 214 pc with
    | none => none
    | some (op, a, nx) => match op, a, st with
      | 1, [v], st => lc_walk f nx ((0, v) :: st)
      | 2, [0, 2], st => lc_walk f nx ((3, 1010) :: st)
      | 2, [1, 2], st => lc_walk f nx ((3, 0) :: st)
      | 2, [2, 2], st => lc_walk f nx ((3, (xc 31 : Int)) :: st)
      | 2, [3, 0], st => lc_walk f nx ((1, 0) :: st)
      | 5, [0], (0, z) :: (1, w) :: st => if w = 0 ∧ 0 ≤ z ∧ z ≤ 5 then lc_walk f nx ((1, z) :: st) else none
      | 11, _, (1, z) :: (3, 1010) :: st => if 0 ≤ z ∧ z ≤ 5 then lc_walk f nx ((2, z) :: st) else none
      | _, _, st => some (pc, st)
def lwL (i : Int32) : List (Option Value) := [some (.ref 1010), some (.ref 0), some (rv 31), some (.int i)]
def LwI (L : Nat) (xs : Nat → Int32) (h : Hp) : Prop := TInv h ∧ RG h ∧ (∀ j, h.1 1010 j = xs j) ∧ h.1 1011 0 = Int32.ofNat L
def LwB (L : Nat) (i : Int32) : Prop := 0 ≤ i.toInt ∧ i.toInt + 6 ≤ L ∧ L ≤ 3072
theorem lc_add {L : Nat} {i : Int32} (B : LwB L i) {z : Int} (h1 : 0 ≤ z) (h2 : z ≤ 6) : (i + Int32.ofInt z).toInt = i.toInt + z := by
  obtain ⟨b1, b2, b3⟩ := B
  rw [Int32.toInt_add, ofInt_toInt (by omega) (by omega), i_bm (by omega) (by omega)]
theorem lc_clamp {x : Int32} (h : 0 ≤ x.toInt) : (x.toNatClampNeg : Int) = x.toInt := by
  show ((x.toInt.toNat : Nat) : Int) = x.toInt
  omega
theorem lc_len {L : Nat} {xs : Nat → Int32} {h : Hp} (I : LwI L xs h) (hL : L ≤ 3072) : fl_len h 1010 = L := by
  show (h.1 1011 0).toNatClampNeg = L
  rw [I.2.2.2]
  exact Int32.toNatClampNeg_ofNat_of_lt (by omega)
theorem lc_walk_ok {L : Nat} {xs : Nat → Int32} {h : Hp} (I : LwI L xs h) {i : Int32} (B : LwB L i) : ∀ (f pc : Nat) (st : List SLV) (pc' : Nat) (st' : List SLV) (rest : List Value), lc_walk f pc st = some (pc', st') → ∀ d r, Ev d 214 (pc', lwL i, st'.map (lwC i xs) ++ rest, h, fl_tot) r → Ev d 214 (pc, lwL i, st.map (lwC i xs) ++ rest, h, fl_tot) r := by
  intro f
  induction f with
  | zero => intro pc st pc' st' rest h; cases h
  | succ f ih =>
    intro pc st pc' st' rest hw d r e
    unfold lc_walk at hw
    split at hw
    · cases hw
    · rename_i op a nx hq
      split at hw
      · refine Ev.step (c' := (nx, lwL i, _, h, fl_tot)) hq rfl (ih _ _ _ _ rest hw d r e)
      · refine Ev.step (c' := (nx, lwL i, _, h, fl_tot)) hq rfl (ih _ _ _ _ rest hw d r e)
      · refine Ev.step (c' := (nx, lwL i, _, h, fl_tot)) hq rfl (ih _ _ _ _ rest hw d r e)
      · refine Ev.step (c' := (nx, lwL i, _, h, fl_tot)) hq rfl (ih _ _ _ _ rest hw d r e)
      · refine Ev.step (c' := (nx, lwL i, (.int (i + Int32.ofInt 0)) :: (st.map (lwC i xs) ++ rest), h, fl_tot)) hq ?_ (ih _ _ _ _ rest hw d r e)
        have e0 : i + Int32.ofInt 0 = i := by
          have : Int32.ofInt 0 = 0 := rfl
          rw [this, Int32.add_zero]
        rw [e0]
        rfl
      · split at hw
        · rename_i z w st hz
          obtain ⟨rfl, z1, z2⟩ := hz
          refine Ev.step (c' := (nx, lwL i, .int (i + Int32.ofInt z) :: (st.map (lwC i xs) ++ rest), h, fl_tot)) hq ?_ (ih _ _ _ _ rest hw d r e)
          show some (Sum.inl (nx, lwL i, Value.int (i + Int32.ofInt 0 + Int32.ofInt z) :: (st.map (lwC i xs) ++ rest), h, fl_tot)) = _
          have e0 : i + Int32.ofInt 0 = i := by
            have : Int32.ofInt 0 = 0 := rfl
            rw [this, Int32.add_zero]
          rw [e0]
        · cases hw
      · split at hw
        · rename_i z st hz
          have ea := lc_add B (z := z) hz.1 (by omega)
          have hB := B
          obtain ⟨b1, b2, b3⟩ := hB
          have ei := lc_clamp (x := i) b1
          have ek := lc_clamp (x := i + Int32.ofInt z) (by omega)
          refine Ev.step (c' := (nx, lwL i, .int (xs (i.toNatClampNeg + z.toNat)) :: (st.map (lwC i xs) ++ rest), h, fl_tot)) hq ?_ (ih _ _ _ _ rest hw d r e)
          have hin : fl_in (i + Int32.ofInt z) (fl_len h 1010) = true := by
            rw [lc_len I b3]
            exact (n_of (by omega) (by omega)).1
          show (if fl_isI fl_tot 1010 && fl_in (i + Int32.ofInt z) (fl_len h 1010) then some (Sum.inl (nx, lwL i, Value.int (h.1 1010 (i + Int32.ofInt z).toNatClampNeg) :: (st.map (lwC i xs) ++ rest), h, fl_tot)) else none) = _
          rw [hin, if_pos (show (fl_isI fl_tot 1010 && true) = true by decide), I.2.2.1, show (i + Int32.ofInt z).toNatClampNeg = i.toNatClampNeg + z.toNat by omega]
        · cases hw
      · cases hw
        exact e
/-- what a method ends with -/
def rt_all (m op : Nat) : Bool := match sm_cs[m]? with
  | some l => l.all (fun e => decide (e.2.1 < 21) || decide (24 < e.2.1) || decide (e.2.1 = op))
  | none => true
theorem rt_code {m op pc : Nat} {q : Smi} (h : rt_all m op = true) (hc : fl_code m pc = some q) : q.1 < 21 ∨ 24 < q.1 ∨ q.1 = op := by
  unfold rt_all at h
  unfold fl_code at hc
  split at hc
  · rename_i l hl
    rw [hl] at h
    have hm : (pc, q) ∈ l := by
      clear h hl
      induction l with
      | nil => cases hc
      | cons e l ih =>
        rw [List.lookup_cons] at hc
        split at hc
        · rename_i z
          have : pc = e.1 := by simpa using z
          cases hc
          rw [this]
          exact List.mem_cons_self
        · exact List.mem_cons_of_mem _ (ih hc)
    have := List.all_eq_true.mp h _ hm
    simp only [Bool.or_eq_true, decide_eq_true_eq] at this
    rcases this with (h1 | h1) | h1
    · exact Or.inl h1
    · exact Or.inr (Or.inl h1)
    · exact Or.inr (Or.inr h1)
  · cases hc
theorem lc_rt {q : Smi} {c : Cfg} {v : Option Value} (h : fl_step q c = some (.inr (.inr v))) : (q.1 = 21 ∧ v = none) ∨ (q.1 = 22 ∧ ∃ x, v = some (.int x)) ∨ (q.1 = 23 ∧ ∃ x, v = some (.long x)) ∨ q.1 = 24 := by
  have hop := ret_op h
  obtain ⟨op, a, nx⟩ := q
  obtain ⟨pc, ls, st, hp, n⟩ := c
  simp only at hop ⊢
  have : op = 21 ∨ op = 22 ∨ op = 23 ∨ op = 24 := by omega
  rcases this with rfl | rfl | rfl | rfl
  · refine Or.inl ⟨rfl, ?_⟩
    match st, h with
    | [], h => cases h; rfl
  · refine Or.inr (Or.inl ⟨rfl, ?_⟩)
    match a, st, h with
    | [r], [.int x], h =>
      simp only [fl_step] at h
      split at h
      · cases h; exact ⟨x, rfl⟩
      · cases h
  · refine Or.inr (Or.inr (Or.inl ⟨rfl, ?_⟩))
    match st, h with
    | [.long x], h => cases h; exact ⟨x, rfl⟩
  · exact Or.inr (Or.inr (Or.inr rfl))
theorem rt_run {m op : Nat} (hr : rt_all m op = true) : ∀ (f d : Nat) (c : Cfg) (v : Option Value) (h : Hp) (n : Nat), fl_run f d m c = some (v, h, n) → (op = 22 → ∃ x, v = some (.int x)) ∧ (op = 23 → ∃ x, v = some (.long x)) := by
  intro f
  induction f with
  | zero => intro d c v h n e; cases e
  | succ f ih =>
    intro d c v h n e
    unfold fl_run at e
    split at e
    · cases e
    · rename_i q hq
      split at e
      · cases e
      · exact ih _ _ _ _ _ e
      · rename_i w hs
        cases e
        have h1 := rt_code hr hq
        have h2 := lc_rt hs
        constructor
        · intro z
          rcases h2 with ⟨h2, -⟩ | ⟨-, h2⟩ | ⟨h2, -⟩ | h2
          · omega
          · exact h2
          · omega
          · omega
        · intro z
          rcases h2 with ⟨h2, -⟩ | ⟨h2, -⟩ | ⟨-, h2⟩ | h2
          · omega
          · omega
          · exact h2
          · omega
      · split at e
        · cases e
        · split at e
          · cases e
          · split at e
            · split at e
              · cases e
              · exact ih _ _ _ _ _ e
            · cases e
theorem rt_ev {m op d : Nat} {c : Cfg} {v : Option Value} {h : Hp} {n : Nat} (hr : rt_all m op = true) (e : Ev d m c (v, h, n)) : (op = 22 → ∃ x, v = some (.int x)) ∧ (op = 23 → ∃ x, v = some (.long x)) := by
  obtain ⟨f, hf⟩ := e
  exact rt_run hr f d c v h n hf
/-! A PAIR OF CALLS -/
def PV (m nL k : Nat) : Prop := ∀ h : Hp, TInv h → RG h → ∀ vs : List Int32, vs.length = k → PubOut h m nL (rv 31 :: vs.map Value.int)
def lwA (k : Nat) (r : Int) : List SLV := ((List.range k).map fun (t : Nat) => ((2 : Nat), ((t : Int) + 1))).reverse ++ [(3, r)]
def lwV (k : Nat) (i : Int32) (xs : Nat → Int32) : List Int32 := (List.range k).map fun (t : Nat) => xs (i.toNatClampNeg + (t + 1))
theorem lwA_map (k : Nat) (r : Nat) (i : Int32) (xs : Nat → Int32) : (lwA k r).map (lwC i xs) = ((lwV k i xs).map Value.int).reverse ++ [.ref r] := by
  unfold lwA lwV
  rw [List.map_append, List.map_reverse, List.map_map, List.map_map]
  congr 1
def lwK (m k : Nat) (r : Nat) : Bool := decide (r < 285) && decide ((fl_lay r).1 = ((sm_ms[m]?).map fun q => q.2.2.2.2).getD 98)
theorem lc_call {xs : Nat → Int32} {h : Hp} {i : Int32} {pc m k nx r d : Nat} {y : sm_M} {rest : List Value} {v : Option Value} {h' : Hp} {res : Option Value × Hp × Nat} (hq : fl_code 214 pc = some (18, [(m : Int), (k : Int)], nx)) (hk : lwK m k r = true) (hrest : fl_cat rest ≤ 8) (hy : sm_ms[m]? = some y) (hl : (fl_args (.ref r :: (lwV k i xs).map Value.int)).length ≤ y.2.2.1)
    (e1 : Ev d m (0, fl_enter y.2.2.1 (.ref r :: (lwV k i xs).map Value.int), [], h, fl_tot) (v, h', fl_tot)) (e2 : Ev (d + 1) 214 (nx, lwL i, v.toList ++ rest, h', fl_tot) res) : Ev (d + 1) 214 (pc, lwL i, (lwA k r).map (lwC i xs) ++ rest, h, fl_tot) res := by
  refine Ev.call hq ?_ hy hl e1 e2
  unfold lwK at hk
  rw [Bool.and_eq_true, decide_eq_true_eq, decide_eq_true_eq] at hk
  have hlen : ((lwA k r).map (lwC i xs)).length = k + 1 := by
    rw [List.length_map]
    unfold lwA
    simp
  show fl_call true 1 (m : Int).toNat (k : Int).toNat nx (lwL i) ((lwA k r).map (lwC i xs) ++ rest) h fl_tot = _
  unfold fl_call
  rw [Int.toNat_natCast, Int.toNat_natCast, if_neg (by rw [List.length_append, hlen]; omega), List.take_left' hlen, List.drop_left' hlen]
  simp only
  rw [if_pos hrest, lwA_map, List.reverse_append, List.reverse_reverse]
  simp only [List.reverse_cons, List.reverse_nil, List.nil_append, List.cons_append, if_true]
  rw [if_pos hk]
def ctP (j k m : Nat) (lg : Bool) : Bool := match ab_cts[j]? with
  | some c => decide (c.1 = m) && decide (c.2.1 ≤ 18) && decide (c.2.2.1 = (2, 1, 0) :: List.replicate k (1, -2147483648, 2147483647)) && c.2.2.2.2.2.1.isEmpty && c.2.2.2.2.1.all (fun x => decide (x < 31)) && decide (c.2.2.2.1.1 = if lg then 5 else 1)
  | none => false
theorem aOK_ints : ∀ vs : List Int32, aOK (List.replicate vs.length (1, -2147483648, 2147483647)) (vs.map Value.int)
  | [] => rfl
  | x :: vs => ⟨_, _, rfl, ⟨x, rfl, i_rng x⟩, aOK_ints vs⟩
theorem Fr.lw {mods : List Nat} {L : Nat} {xs : Nat → Int32} {h h' : Hp} (hm : mods.all (fun x => decide (x < 31)) = true) (F : Fr mods h h') (T : TInv h') (I : LwI L xs h) : LwI L xs h' := by
  have k : ∀ r, 31 ≤ ab_kd r → h'.1 r = h.1 r := fun r hr => (F r (fun z => by
    have := of_decide_eq_true (List.all_eq_true.mp hm _ z)
    omega)).1
  have F' : Fq [] [] h h' := by
    refine ⟨fun K z h1 h2 _ => ?_, fun z _ _ => ?_⟩
    · show (h'.1 (xc K) z.toNat).toInt = (h.1 (xc K) z.toNat).toInt
      rw [k (xc K) (by rw [xc_kd' (by omega) h2]; omega)]
    · show (h'.1 (xc 31) z.toNat).toInt = (h.1 (xc 31) z.toNat).toInt
      rw [k (xc 31) (by decide +kernel)]
  refine ⟨T, I.2.1.fr F' rfl, fun j => ?_, ?_⟩
  · rw [k 1010 (by decide +kernel)]; exact I.2.2.1 j
  · rw [k 1011 (by decide +kernel)]; exact I.2.2.2
theorem Nx.lw {L : Nat} {xs : Nat → Int32} {h h' : Hp} (N : Nx h h') (G : RG h') (I : LwI L xs h) : LwI L xs h' := by
  refine ⟨N.1, G, fun j => ?_, ?_⟩
  · rw [N.2.2 1010 (by decide +kernel)]; exact I.2.2.1 j
  · rw [N.2.2 1011 (by decide +kernel)]; exact I.2.2.2
/-- a call of the class's -/
theorem lc_x {L : Nat} {xs : Nat → Int32} {h : Hp} (I : LwI L xs h) (i : Int32) {j k m pc nx : Nat} {lg : Bool} (hc : ctP j k m lg = true) (hq : fl_code 214 pc = some (18, [(m : Int), (k : Int)], nx)) (hk : lwK m k 0 = true) : ∃ w h', LwI L xs h' ∧ ((lg = false → ∃ x, w = .int x) ∧ (lg = true → ∃ x, w = .long x)) ∧ ∀ d r rest, 20 ≤ d → fl_cat rest ≤ 8 → Ev d 214 (nx, lwL i, w :: rest, h', fl_tot) r → Ev d 214 (pc, lwL i, (lwA k (0 : Nat)).map (lwC i xs) ++ rest, h, fl_tot) r := by
  unfold ctP at hc
  split at hc
  · rename_i c hct
    simp only [Bool.and_eq_true, decide_eq_true_eq] at hc
    obtain ⟨⟨⟨⟨⟨c1, c2⟩, c3⟩, c4⟩, c5⟩, c6⟩ := hc
    have hlen : (lwV k i xs).length = k := by unfold lwV; simp
    obtain ⟨y, y1, y2, v, h', g1, g2, g3, g4, -⟩ := cv_all hct (.ref 0 :: (lwV k i xs).map Value.int) h I.1 (by
      rw [c3]
      refine ⟨_, _, rfl, ⟨0, rfl, by decide +kernel⟩, ?_⟩
      have := aOK_ints (lwV k i xs)
      rw [hlen] at this
      exact this) (fun p hp => by
      rw [List.isEmpty_iff] at c4
      rw [c4] at hp
      cases hp)
    have hv : ∃ w, v = some w ∧ ((lg = false → ∃ x, w = .int x) ∧ (lg = true → ∃ x, w = .long x)) := by
      unfold retOK at g3
      cases lg with
      | true =>
        rw [if_neg (by rw [c6]; decide)] at g3
        obtain ⟨w, rfl, hw⟩ := g3
        refine ⟨w, rfl, fun z => (by cases z), fun _ => ?_⟩
        unfold valOK at hw
        rw [c6] at hw
        exact hw
      | false =>
        rw [if_neg (by rw [c6]; decide)] at g3
        obtain ⟨w, rfl, hw⟩ := g3
        refine ⟨w, rfl, fun _ => ?_, fun z => (by cases z)⟩
        unfold valOK at hw
        rw [c6] at hw
        obtain ⟨x, hx, -⟩ := hw
        exact ⟨x, hx⟩
    obtain ⟨w, rfl, hw⟩ := hv
    rw [c1] at y1 g1
    refine ⟨w, h', Fr.lw c5 g4 g2 I, hw, fun d r rest hd hr e => ?_⟩
    obtain ⟨d, rfl⟩ : ∃ d', d = d' + 1 := ⟨d - 1, by omega⟩
    exact lc_call hq hk hr y1 y2 (g1.mono (by omega)) e
  · cases hc
/-- a call of the reference's -/
theorem lc_m {L : Nat} {xs : Nat → Int32} {h : Hp} (I : LwI L xs h) (i : Int32) {k m nL pc nx : Nat} {lg : Bool} (P : PV m nL k) (hr : rt_all m (if lg then 23 else 22) = true) (hy : ((sm_ms[m]?).map fun y => y.2.2.1) = some nL) (hl : k + 1 ≤ nL) (hq : fl_code 214 pc = some (18, [(m : Int), (k : Int)], nx)) (hk : lwK m k (xc 31) = true) : ∃ w h', LwI L xs h' ∧ ((lg = false → ∃ x, w = .int x) ∧ (lg = true → ∃ x, w = .long x)) ∧ ∀ d r rest, 20 ≤ d → fl_cat rest ≤ 8 → Ev d 214 (nx, lwL i, w :: rest, h', fl_tot) r → Ev d 214 (pc, lwL i, (lwA k (xc 31 : Nat)).map (lwC i xs) ++ rest, h, fl_tot) r := by
  have hlen : (lwV k i xs).length = k := by unfold lwV; simp
  obtain ⟨v, h', u1, u2, u3⟩ := P h I.1 I.2.1 (lwV k i xs) hlen
  have hrt := rt_ev hr (u1 14 (Nat.le_refl _))
  have hv : ∃ w, v = some w ∧ ((lg = false → ∃ x, w = .int x) ∧ (lg = true → ∃ x, w = .long x)) := by
    cases lg with
    | true =>
      obtain ⟨x, rfl⟩ := hrt.2 rfl
      exact ⟨_, rfl, fun z => (by cases z), fun _ => ⟨x, rfl⟩⟩
    | false =>
      obtain ⟨x, rfl⟩ := hrt.1 rfl
      exact ⟨_, rfl, fun _ => ⟨x, rfl⟩, fun z => by cases z⟩
  obtain ⟨w, rfl, hw⟩ := hv
  cases hms : sm_ms[m]? with
  | none => rw [hms] at hy; cases hy
  | some y =>
    rw [hms] at hy
    have hy2 : y.2.2.1 = nL := Option.some.inj hy
    have hargs : ∀ vs : List Int32, (fl_args (vs.map Value.int)).length = vs.length := fun vs => by
      induction vs with
      | nil => rfl
      | cons x vs ih =>
        show (some (Value.int x) :: fl_args (vs.map Value.int)).length = _
        rw [List.length_cons, List.length_cons, ih]
    refine ⟨w, h', Nx.lw u2 u3 I, hw, fun d r rest hd hr e => ?_⟩
    obtain ⟨d, rfl⟩ : ∃ d', d = d' + 1 := ⟨d - 1, by omega⟩
    refine lc_call (v := some w) hq hk hr hms ?_ ?_ e
    · show (some (Value.ref (xc 31)) :: fl_args ((lwV k i xs).map Value.int)).length ≤ _
      rw [List.length_cons, hargs, hlen, hy2]
      exact hl
    · rw [hy2]
      exact u1 d (by omega)
def popO (lg : Bool) : Nat := if lg then 28 else 27
theorem lc_pop {lg : Bool} {w : Value} (hw : (lg = false → ∃ x, w = .int x) ∧ (lg = true → ∃ x, w = .long x)) {pc nx : Nat} {i : Int32} {h : Hp} {d : Nat} {r : Option Value × Hp × Nat} (hq : fl_code 214 pc = some (popO lg, [], nx)) (e : Ev d 214 (nx, lwL i, [], h, fl_tot) r) : Ev d 214 (pc, lwL i, [w], h, fl_tot) r := by
  cases lg with
  | true =>
    obtain ⟨x, rfl⟩ := hw.2 rfl
    exact Ev.step (c' := (nx, lwL i, [], h, fl_tot)) hq rfl e
  | false =>
    obtain ⟨x, rfl⟩ := hw.1 rfl
    exact Ev.step (c' := (nx, lwL i, [], h, fl_tot)) hq rfl e
/-- both calls of a case, their answers thrown away -/
theorem lc_two {L : Nat} {xs : Nat → Int32} {h : Hp} (I : LwI L xs h) {i : Int32} (B : LwB L i) {j k mx mm nL pc0 pc1 nx1 q1 pc2 nx2 q2 : Nat} {lg : Bool} {zz : Nat} (P : PV mm nL k) (w1 : lc_walk 60 pc0 [] = some (pc1, lwA k (0 : Nat))) (a1 : fl_code 214 pc1 = some (18, [(mx : Int), (k : Int)], nx1)) (hc : ctP j k mx lg = true) (hk1 : lwK mx k 0 = true) (p1 : fl_code 214 nx1 = some (popO lg, [], q1))
    (w2 : lc_walk 60 q1 [] = some (pc2, lwA k (xc 31 : Nat))) (a2 : fl_code 214 pc2 = some (18, [(mm : Int), (k : Int)], nx2)) (hr : rt_all mm (if lg then 23 else 22) = true) (hy : ((sm_ms[mm]?).map fun y => y.2.2.1) = some nL) (hl : k + 1 ≤ nL) (hk2 : lwK mm k (xc 31) = true) (p2 : fl_code 214 nx2 = some (popO lg, [], q2)) (a3 : fl_code 214 q2 = some (8, [816], zz)) :
    ∃ h', LwI L xs h' ∧ ∀ d r, 20 ≤ d → Ev d 214 (816, lwL i, [], h', fl_tot) r → Ev d 214 (pc0, lwL i, [], h, fl_tot) r := by
  obtain ⟨w, h1, I1, hw, K1⟩ := lc_x I i hc a1 hk1
  obtain ⟨v, h2, I2, hv, K2⟩ := lc_m I1 i P hr hy hl a2 hk2
  refine ⟨h2, I2, fun d r hd e => ?_⟩
  have g3 : Ev d 214 (q2, lwL i, [], h2, fl_tot) r := Ev.step (c' := (816, lwL i, [], h2, fl_tot)) a3 rfl e
  have g2 := lc_walk_ok I1 B 60 q1 [] pc2 _ [] w2 d r (K2 d r [] hd (by decide) (lc_pop hv p2 g3))
  exact lc_walk_ok I B 60 pc0 [] pc1 _ [] w1 d r (K1 d r [] hd (by decide) (lc_pop hw p1 g2))
