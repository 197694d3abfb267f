
set_option maxRecDepth 20000
/-! BACKWARD: what a run that ends has gone through -/
def invO (d m : Nat) (c : Cfg) (r : Option Value × Hp × Nat) : Out → Prop
  | .inl c' => Ev d m c' r
  | .inr (.inr v) => r = (v, c.2.2.2.1, c.2.2.2.2)
  | .inr (.inl (m2, as, rest, nx)) => ∃ d' y v h2 n2, d = d' + 1 ∧ sm_ms[m2]? = some y ∧ Ev d' m2 (0, fl_enter y.2.2.1 as, [], c.2.2.2.1, c.2.2.2.2) (v, h2, n2) ∧ Ev d m (nx, c.2.1, v.toList ++ rest, h2, n2) r
theorem Ev.inv {d m : Nat} {c : Cfg} {q : Smi} {r : Option Value × Hp × Nat} (e : Ev d m c r) (hc : fl_code m c.1 = some q) : ∃ o, fl_step q c = some o ∧ invO d m c r o := by
  obtain ⟨f, hf⟩ := e
  cases f with
  | zero => cases hf
  | succ f =>
    unfold fl_run at hf
    rw [hc] at hf
    simp only at hf
    cases hs : fl_step q c with
    | none => rw [hs] at hf; cases hf
    | some o =>
      rw [hs] at hf
      refine ⟨o, rfl, ?_⟩
      rcases o with c' | ⟨m2, as, rest, nx⟩ | v
      · exact ⟨f, hf⟩
      · simp only at hf ⊢
        cases d with
        | zero => cases hf
        | succ d' =>
          simp only at hf
          cases hy : sm_ms[m2]? with
          | none => rw [hy] at hf; cases hf
          | some y =>
            rw [hy] at hf
            simp only at hf
            by_cases hl : (fl_args as).length ≤ y.2.2.1
            · rw [if_pos hl] at hf
              cases hr : fl_run f d' m2 (0, fl_enter y.2.2.1 as, [], c.2.2.2.1, c.2.2.2.2) with
              | none => rw [hr] at hf; cases hf
              | some w =>
                obtain ⟨v, h2, n2⟩ := w
                rw [hr] at hf
                exact ⟨d', y, v, h2, n2, rfl, hy, ⟨f, hr⟩, ⟨f, hf⟩⟩
            · rw [if_neg hl] at hf; cases hf
      · exact (Option.some.inj hf).symm
/-- an instruction of a block, how it is taken (0 as it stands, 1 an int of an object, 2 a reference of an object, 4 an int of an array, 5 an int into an object, 6 an int into an array, 7 a reference into an object, 9 a quotient or rest, 10 a copy, 11 a length, 12 and 13 null or not), -/
abbrev BK : Type := Smi × Nat
def bk_step (p : BK) (b : Nat) (c : Cfg) : Option Cfg := match p, c with
  | ((op, a, nx), w), (pc, ls, st, h, n) => match w with
    | 0 => match fl_step (op, a, nx) (pc, ls, st, h, n) with
      | some (.inl c') => some c'
      | _ => none
    | 1 => match a, st with
      | [_, k], .ref r :: st => some (nx, ls, .int (h.1 r k.toNat) :: st, h, n)
      | _, _ => none
    | 2 => match st with
      | .ref _ :: st => some (nx, ls, .ref b :: st, h, n)
      | _ => none
    | 4 => match st with
      | .int i :: .ref r :: st => some (nx, ls, .int (h.1 r i.toNatClampNeg) :: st, h, n)
      | _ => none
    | 5 => match a, st with
      | [_, k], .int x :: .ref r :: st => some (nx, ls, st, fl_setI h r k.toNat x, n)
      | _, _ => none
    | 6 => match st with
      | .int x :: .int i :: .ref r :: st => some (nx, ls, st, fl_setI h r i.toNatClampNeg x, n)
      | _ => none
    | 7 => match a, st with
      | [_, k], .ref x :: .ref r :: st => some (nx, ls, st, fl_setR h r k.toNat (some x), n)
      | _, _ => none
    | 9 => match a, st with
      | [o], .int y :: .int x :: st => some (nx, ls, .int (if o = 3 then x / y else x - x / y * y) :: st, h, n)
      | _, _ => none
    | 10 => match st with
      | .int k :: .int dp :: .ref b :: .int sp :: .ref r :: st => some (nx, ls, st, fl_copy h r sp.toNatClampNeg b dp.toNatClampNeg k.toNatClampNeg, n)
      | _ => none
    | 11 => match st with
      | .ref r :: st => some (nx, ls, .int (Int32.ofNat (fl_len h r)) :: st, h, n)
      | _ => none
    | 12 => match op, st with
      | 33, .ref _ :: st => some (nx, ls, st, h, n)
      | 34, .null :: st => some (nx, ls, st, h, n)
      | _, _ => none
    | 13 => match op, a, st with
      | 33, [t], .null :: st => some (t.toNat, ls, st, h, n)
      | 34, [t], .ref _ :: st => some (t.toNat, ls, st, h, n)
      | _, _, _ => none
    | _ => none
def bk_ob (p : BK) (b : Nat) (c : Cfg) : Prop := match p, c with
  | ((_, a, _), _), (_, _, st, h, _) => match a, st with
    | [_, k], .ref r :: _ => h.2 r k.toNat = some b
    | _, _ => True
def bk_tl (p : BK) (bs : List Nat) : List Nat := match p.2 with
  | 2 => bs.tail
  | _ => bs
/-- bs: the cells that the 2 give, in order -/
def bk_run : List BK → List Nat → Cfg → Option Cfg
  | [], _, c => some c
  | p :: l, bs, c => match bk_step p (bs.headD 0) c with
    | some c1 => bk_run l (bk_tl p bs) c1
    | none => none
def bk_obs : List BK → List Nat → Cfg → Prop
  | [], _, _ => True
  | p :: l, bs, c => match p.2 with
    | 2 => bk_ob p (bs.headD 0) c ∧ (match bk_step p (bs.headD 0) c with
      | some c1 => bk_obs l bs.tail c1
      | none => True)
    | _ => match bk_step p (bs.headD 0) c with
      | some c1 => bk_obs l bs c1
      | none => True
def bk_kd (a : List Int) : Nat := match a with
  | [ci, k] => fl_kind ci.toNat k.toNat
  | _ => 9
def bk_op (p : BK) : Bool := match p.2 with
  | 0 => decide (p.1.1 ≤ 5) || p.1.1 == 8 || (decide (25 ≤ p.1.1) && decide (p.1.1 ≤ 28)) || p.1.1 == 32 || (decide (35 ≤ p.1.1) && decide (p.1.1 ≤ 39)) || p.1.1 == 42
  | 1 => p.1.1 == 9 && decide (bk_kd p.1.2.1 < 2)
  | 2 => p.1.1 == 9 && decide (bk_kd p.1.2.1 = 2)
  | 4 => p.1.1 == 11 || p.1.1 == 13
  | 5 => p.1.1 == 10 && decide (bk_kd p.1.2.1 < 2)
  | 6 => p.1.1 == 12 || p.1.1 == 14
  | 7 => p.1.1 == 10 && decide (bk_kd p.1.2.1 = 2)
  | 9 => p.1.1 == 5 && (p.1.2.1 == [3] || p.1.2.1 == [4])
  | 10 => p.1.1 == 41
  | 11 => p.1.1 == 17
  | 12 => p.1.1 == 33 || p.1.1 == 34
  | 13 => p.1.1 == 33 || p.1.1 == 34
  | _ => false
def bk_nx (p : BK) : Nat := if p.1.1 = 8 then (p.1.2.1.headD 0).toNat else if p.2 = 13 then (p.1.2.1.headD 0).toNat else p.1.2.2
def bk_code (m : Nat) : Nat → List BK → Bool
  | _, [] => true
  | pc, p :: l => decide (fl_code m pc = some p.1) && bk_op p && bk_code m (bk_nx p) l
theorem call_no {virt : Bool} {inst m n nx : Nat} {ls : List (Option Value)} {st : List Value} {h : Hp} {nc : Nat} {c' : Cfg} (e : fl_call virt inst m n nx ls st h nc = some (.inl c')) : False := by
  obtain ⟨_, _, z⟩ := call_m e
  cases z
theorem kd_lt2 {x : Nat} (h : x < 2) : x = 0 ∨ x = 1 := by omega
theorem bk_one {p : BK} {b : Nat} {c c1 : Cfg} {o : Out} (ho : bk_op p = true) (hs : fl_step p.1 c = some o) (hb : p.2 = 2 → bk_ob p b c) (h1 : bk_step p b c = some c1) : o = .inl c1 ∧ c1.1 = bk_nx p := by
  obtain ⟨⟨op, a, nx⟩, w⟩ := p
  obtain ⟨pc, ls, st, h, n⟩ := c
  simp only at hs hb
  unfold bk_step at h1
  simp only at h1
  unfold bk_op at ho
  simp only at ho
  split at h1
  · -- 0
    split at h1
    · rename_i c' hc
      cases h1
      rw [hc] at hs
      cases hs
      refine ⟨rfl, ?_⟩
      unfold bk_nx
      simp only
      simp only [Bool.or_eq_true, Bool.and_eq_true, decide_eq_true_eq, beq_iff_eq] at ho
      by_cases h8 : op = 8
      · subst h8
        rw [if_pos rfl]
        simp only [fl_step] at hc
        split at hc
        · cases hc; rfl
        · cases hc
      · rw [if_neg h8, if_neg (by decide)]
        unfold fl_step at hc
        simp only at hc
        split at hc
        all_goals first
          | omega
          | (exfalso; exact call_no hc)
          | ((repeat' split at hc) <;> first | (cases hc; done) | (cases hc; rfl))
    · cases h1
  · -- 1
    simp only [Bool.and_eq_true, beq_iff_eq, decide_eq_true_eq] at ho
    obtain ⟨rfl, hk⟩ := ho
    split at h1
    · rename_i ci k r st'
      cases h1
      simp only [fl_step] at hs
      unfold bk_kd at hk
      simp only at hk
      split at hs
      · rcases kd_lt2 hk with hk | hk <;> (rw [hk] at hs; cases hs; exact ⟨rfl, rfl⟩)
      · cases hs
    · cases h1
  · -- 2
    simp only [Bool.and_eq_true, beq_iff_eq, decide_eq_true_eq] at ho
    obtain ⟨rfl, hk⟩ := ho
    have hb := hb rfl
    split at h1
    · rename_i r st'
      cases h1
      unfold bk_kd at hk
      split at hk
      · rename_i ci k
        unfold bk_ob at hb
        simp only at hb
        simp only [fl_step] at hs
        split at hs
        · rw [hk] at hs
          simp only at hs
          rw [hb] at hs
          cases hs
          exact ⟨rfl, rfl⟩
        · cases hs
      · cases hk
    · cases h1
  · -- 4
    simp only [Bool.or_eq_true, beq_iff_eq] at ho
    split at h1
    · cases h1
      rcases ho with rfl | rfl <;> (simp only [fl_step] at hs; split at hs <;> cases hs; exact ⟨rfl, rfl⟩)
    · cases h1
  · -- 5
    simp only [Bool.and_eq_true, beq_iff_eq, decide_eq_true_eq] at ho
    obtain ⟨rfl, hk⟩ := ho
    split at h1
    · rename_i ci k x r st'
      cases h1
      simp only [fl_step] at hs
      unfold bk_kd at hk
      simp only at hk
      split at hs
      · rcases kd_lt2 hk with hk | hk
        · rw [hk] at hs; cases hs; exact ⟨rfl, rfl⟩
        · rw [hk] at hs
          simp only at hs
          split at hs
          · cases hs; exact ⟨rfl, rfl⟩
          · cases hs
      · cases hs
    · cases h1
  · -- 6
    simp only [Bool.or_eq_true, beq_iff_eq] at ho
    split at h1
    · cases h1
      rcases ho with rfl | rfl <;> (simp only [fl_step] at hs; split at hs <;> cases hs; exact ⟨rfl, rfl⟩)
    · cases h1
  · -- 7
    simp only [Bool.and_eq_true, beq_iff_eq, decide_eq_true_eq] at ho
    obtain ⟨rfl, hk⟩ := ho
    split at h1
    · rename_i ci k x r st'
      cases h1
      simp only [fl_step] at hs
      unfold bk_kd at hk
      simp only at hk
      split at hs
      · rw [hk] at hs; cases hs; exact ⟨rfl, rfl⟩
      · cases hs
    · cases h1
  · -- 9
    simp only [Bool.and_eq_true, Bool.or_eq_true, beq_iff_eq] at ho
    obtain ⟨rfl, hk⟩ := ho
    split at h1
    · rename_i o' y x st'
      cases h1
      simp only [fl_step] at hs
      rcases hk with hk | hk
      · cases hk
        simp only [fl_bin] at hs
        split at hs
        · rename_i z hz
          split at hz
          · cases hz
          · cases hz; cases hs; exact ⟨rfl, rfl⟩
        · cases hs
      · cases hk
        simp only [fl_bin] at hs
        split at hs
        · rename_i z hz
          split at hz
          · cases hz
          · cases hz; cases hs; exact ⟨rfl, rfl⟩
        · cases hs
    · cases h1
  · -- 10
    simp only [beq_iff_eq] at ho
    subst ho
    split at h1
    · cases h1
      simp only [fl_step] at hs
      split at hs <;> cases hs
      exact ⟨rfl, rfl⟩
    · cases h1
  · -- 11
    simp only [beq_iff_eq] at ho
    subst ho
    split at h1
    · cases h1
      simp only [fl_step] at hs
      split at hs <;> cases hs
      exact ⟨rfl, rfl⟩
    · cases h1
  · -- 12
    split at h1
    · cases h1
      (rcases a with _ | ⟨t, _ | ⟨t2, a2⟩⟩ <;> simp only [fl_step] at hs <;> first | (cases hs; done) | (cases hs; exact ⟨rfl, rfl⟩))
    · cases h1
      (rcases a with _ | ⟨t, _ | ⟨t2, a2⟩⟩ <;> simp only [fl_step] at hs <;> first | (cases hs; done) | (cases hs; exact ⟨rfl, rfl⟩))
    · cases h1
  · -- 13
    split at h1
    · cases h1
      simp only [fl_step] at hs
      cases hs
      exact ⟨rfl, rfl⟩
    · cases h1
      simp only [fl_step] at hs
      cases hs
      exact ⟨rfl, rfl⟩
    · cases h1
  · cases h1
theorem Ev.bk0 {d m : Nat} {r : Option Value × Hp × Nat} : ∀ (l : List BK) (bs : List Nat) {c : Cfg}, Ev d m c r → bk_code m c.1 l = true → bk_obs l bs c → ∀ {c' : Cfg}, bk_run l bs c = some c' → Ev d m c' r
  | [], _, c, e, _, _, c', h => by
    cases h
    exact e
  | p :: l, bs, c, e, hc, ho, c', h => by
    unfold bk_code at hc
    simp only [Bool.and_eq_true, decide_eq_true_eq] at hc
    obtain ⟨⟨c1, c2⟩, c3⟩ := hc
    obtain ⟨o, s1, s2⟩ := e.inv c1
    unfold bk_run at h
    split at h
    · rename_i x hx
      have ob : p.2 = 2 → bk_ob p (bs.headD 0) c := fun z => by
        unfold bk_obs at ho
        rw [z] at ho
        exact ho.1
      obtain ⟨rfl, h2⟩ := bk_one c2 s1 ob hx
      refine Ev.bk0 l _ (show Ev d m _ r from s2) (by rw [h2]; exact c3) ?_ h
      unfold bk_obs at ho
      rw [hx] at ho
      unfold bk_tl
      split at ho
      · exact ho.2
      · exact ho
    · cases h
theorem Ev.bk {d m pc n : Nat} {ls : List (Option Value)} {st : List Value} {h : Hp} {r : Option Value × Hp × Nat} {c' : Cfg} (e : Ev d m (pc, ls, st, h, n) r) (l : List BK) (bs : List Nat) (hc : bk_code m pc l = true) (ho : bk_obs l bs (pc, ls, st, h, n)) (hr : bk_run l bs (pc, ls, st, h, n) = some c') : Ev d m c' r := Ev.bk0 l bs e hc ho hr
/-! BRANCHES, CALLS, ENDS -/
theorem kc {v : Int} (h1 : -2147483648 ≤ v) (h2 : v ≤ 2147483647) : (Int32.ofInt v).toInt = v := ofInt_toInt h1 h2
theorem step_one {q : Smi} {c c' : Cfg} {o : Out} {d m : Nat} {r : Option Value × Hp × Nat} (hs : fl_step q c = some o) (hm : invO d m c r o) (h : fl_step q c = some (.inl c')) : Ev d m c' r := by
  rw [hs] at h
  cases h
  exact hm
section BR
variable {d m pc nx T n : Nat} {t X Y : Int} {ls : List (Option Value)} {st : List Value} {h : Hp} {x y : Int32} {r : Option Value × Hp × Nat}
theorem b6_go {o : Int} {b : Bool} (e : Ev d m (pc, ls, .int x :: st, h, n) r) (hc : fl_code m pc = some (6, [o, t], nx)) (hb : fl_cmp o x 0 = some b) : Ev d m (if b then t.toNat else nx, ls, st, h, n) r := by
  obtain ⟨o', s1, s2⟩ := e.inv hc
  refine step_one s1 s2 ?_
  simp only [fl_step]
  rw [hb]
theorem b7_go {o : Int} {b : Bool} (e : Ev d m (pc, ls, .int y :: .int x :: st, h, n) r) (hc : fl_code m pc = some (7, [o, t], nx)) (hb : fl_cmp o x y = some b) : Ev d m (if b then t.toNat else nx, ls, st, h, n) r := by
  obtain ⟨o', s1, s2⟩ := e.inv hc
  refine step_one s1 s2 ?_
  simp only [fl_step]
  rw [hb]
theorem b6_0 (e : Ev d m (pc, ls, .int x :: st, h, n) r) (hc : fl_code m pc = some (6, [0, t], nx)) (hT : t.toNat = T) (ex : x.toInt = X) : (X = 0 ∧ Ev d m (T, ls, st, h, n) r) ∨ (X ≠ 0 ∧ Ev d m (nx, ls, st, h, n) r) := by
  subst hT ex
  by_cases hp : x = 0
  · have := b6_go e hc (b := true) (show fl_cmp 0 x 0 = some true from congrArg some (decide_eq_true hp))
    refine Or.inl ⟨?_, this⟩
    rw [hp]; rfl
  · have := b6_go e hc (b := false) (show fl_cmp 0 x 0 = some false from congrArg some (decide_eq_false hp))
    refine Or.inr ⟨?_, this⟩
    exact fun z => hp (Int32.toInt_inj.mp z)
theorem b7_0 (e : Ev d m (pc, ls, .int y :: .int x :: st, h, n) r) (hc : fl_code m pc = some (7, [0, t], nx)) (hT : t.toNat = T) (ex : x.toInt = X) (ey : y.toInt = Y) : (X = Y ∧ Ev d m (T, ls, st, h, n) r) ∨ (X ≠ Y ∧ Ev d m (nx, ls, st, h, n) r) := by
  subst hT ex ey
  by_cases hp : x = y
  · have := b7_go e hc (b := true) (show fl_cmp 0 x y = some true from congrArg some (decide_eq_true hp))
    refine Or.inl ⟨?_, this⟩
    rw [hp]
  · have := b7_go e hc (b := false) (show fl_cmp 0 x y = some false from congrArg some (decide_eq_false hp))
    refine Or.inr ⟨?_, this⟩
    exact fun z => hp (Int32.toInt_inj.mp z)
theorem b6_1 (e : Ev d m (pc, ls, .int x :: st, h, n) r) (hc : fl_code m pc = some (6, [1, t], nx)) (hT : t.toNat = T) (ex : x.toInt = X) : (X ≠ 0 ∧ Ev d m (T, ls, st, h, n) r) ∨ (X = 0 ∧ Ev d m (nx, ls, st, h, n) r) := by
  subst hT ex
  by_cases hp : x ≠ 0
  · have := b6_go e hc (b := true) (show fl_cmp 1 x 0 = some true from congrArg some (decide_eq_true hp))
    refine Or.inl ⟨?_, this⟩
    exact fun z => hp (Int32.toInt_inj.mp z)
  · have := b6_go e hc (b := false) (show fl_cmp 1 x 0 = some false from congrArg some (decide_eq_false hp))
    refine Or.inr ⟨?_, this⟩
    have hp := Decidable.not_not.mp hp; rw [hp]; rfl
theorem b7_1 (e : Ev d m (pc, ls, .int y :: .int x :: st, h, n) r) (hc : fl_code m pc = some (7, [1, t], nx)) (hT : t.toNat = T) (ex : x.toInt = X) (ey : y.toInt = Y) : (X ≠ Y ∧ Ev d m (T, ls, st, h, n) r) ∨ (X = Y ∧ Ev d m (nx, ls, st, h, n) r) := by
  subst hT ex ey
  by_cases hp : x ≠ y
  · have := b7_go e hc (b := true) (show fl_cmp 1 x y = some true from congrArg some (decide_eq_true hp))
    refine Or.inl ⟨?_, this⟩
    exact fun z => hp (Int32.toInt_inj.mp z)
  · have := b7_go e hc (b := false) (show fl_cmp 1 x y = some false from congrArg some (decide_eq_false hp))
    refine Or.inr ⟨?_, this⟩
    have hp := Decidable.not_not.mp hp; rw [hp]
theorem b6_2 (e : Ev d m (pc, ls, .int x :: st, h, n) r) (hc : fl_code m pc = some (6, [2, t], nx)) (hT : t.toNat = T) (ex : x.toInt = X) : (X < 0 ∧ Ev d m (T, ls, st, h, n) r) ∨ (0 ≤ X ∧ Ev d m (nx, ls, st, h, n) r) := by
  subst hT ex
  by_cases hp : x < 0
  · have := b6_go e hc (b := true) (show fl_cmp 2 x 0 = some true from congrArg some (decide_eq_true hp))
    refine Or.inl ⟨?_, this⟩
    exact Int32.lt_iff_toInt_lt.mp hp
  · have := b6_go e hc (b := false) (show fl_cmp 2 x 0 = some false from congrArg some (decide_eq_false hp))
    refine Or.inr ⟨?_, this⟩
    exact Int.not_lt.mp fun z => hp (Int32.lt_iff_toInt_lt.mpr z)
theorem b7_2 (e : Ev d m (pc, ls, .int y :: .int x :: st, h, n) r) (hc : fl_code m pc = some (7, [2, t], nx)) (hT : t.toNat = T) (ex : x.toInt = X) (ey : y.toInt = Y) : (X < Y ∧ Ev d m (T, ls, st, h, n) r) ∨ (Y ≤ X ∧ Ev d m (nx, ls, st, h, n) r) := by
  subst hT ex ey
  by_cases hp : x < y
  · have := b7_go e hc (b := true) (show fl_cmp 2 x y = some true from congrArg some (decide_eq_true hp))
    refine Or.inl ⟨?_, this⟩
    exact Int32.lt_iff_toInt_lt.mp hp
  · have := b7_go e hc (b := false) (show fl_cmp 2 x y = some false from congrArg some (decide_eq_false hp))
    refine Or.inr ⟨?_, this⟩
    exact Int.not_lt.mp fun z => hp (Int32.lt_iff_toInt_lt.mpr z)
theorem b6_3 (e : Ev d m (pc, ls, .int x :: st, h, n) r) (hc : fl_code m pc = some (6, [3, t], nx)) (hT : t.toNat = T) (ex : x.toInt = X) : (0 ≤ X ∧ Ev d m (T, ls, st, h, n) r) ∨ (X < 0 ∧ Ev d m (nx, ls, st, h, n) r) := by
  subst hT ex
  by_cases hp : 0 ≤ x
  · have := b6_go e hc (b := true) (show fl_cmp 3 x 0 = some true from congrArg some (decide_eq_true hp))
    refine Or.inl ⟨?_, this⟩
    exact Int32.le_iff_toInt_le.mp hp
  · have := b6_go e hc (b := false) (show fl_cmp 3 x 0 = some false from congrArg some (decide_eq_false hp))
    refine Or.inr ⟨?_, this⟩
    exact Int.not_le.mp fun z => hp (Int32.le_iff_toInt_le.mpr z)
theorem b7_3 (e : Ev d m (pc, ls, .int y :: .int x :: st, h, n) r) (hc : fl_code m pc = some (7, [3, t], nx)) (hT : t.toNat = T) (ex : x.toInt = X) (ey : y.toInt = Y) : (Y ≤ X ∧ Ev d m (T, ls, st, h, n) r) ∨ (X < Y ∧ Ev d m (nx, ls, st, h, n) r) := by
  subst hT ex ey
  by_cases hp : y ≤ x
  · have := b7_go e hc (b := true) (show fl_cmp 3 x y = some true from congrArg some (decide_eq_true hp))
    refine Or.inl ⟨?_, this⟩
    exact Int32.le_iff_toInt_le.mp hp
  · have := b7_go e hc (b := false) (show fl_cmp 3 x y = some false from congrArg some (decide_eq_false hp))
    refine Or.inr ⟨?_, this⟩
    exact Int.not_le.mp fun z => hp (Int32.le_iff_toInt_le.mpr z)
theorem b6_4 (e : Ev d m (pc, ls, .int x :: st, h, n) r) (hc : fl_code m pc = some (6, [4, t], nx)) (hT : t.toNat = T) (ex : x.toInt = X) : (0 < X ∧ Ev d m (T, ls, st, h, n) r) ∨ (X ≤ 0 ∧ Ev d m (nx, ls, st, h, n) r) := by
  subst hT ex
  by_cases hp : 0 < x
  · have := b6_go e hc (b := true) (show fl_cmp 4 x 0 = some true from congrArg some (decide_eq_true hp))
    refine Or.inl ⟨?_, this⟩
    exact Int32.lt_iff_toInt_lt.mp hp
  · have := b6_go e hc (b := false) (show fl_cmp 4 x 0 = some false from congrArg some (decide_eq_false hp))
    refine Or.inr ⟨?_, this⟩
    exact Int.not_lt.mp fun z => hp (Int32.lt_iff_toInt_lt.mpr z)
theorem b7_4 (e : Ev d m (pc, ls, .int y :: .int x :: st, h, n) r) (hc : fl_code m pc = some (7, [4, t], nx)) (hT : t.toNat = T) (ex : x.toInt = X) (ey : y.toInt = Y) : (Y < X ∧ Ev d m (T, ls, st, h, n) r) ∨ (X ≤ Y ∧ Ev d m (nx, ls, st, h, n) r) := by
  subst hT ex ey
  by_cases hp : y < x
  · have := b7_go e hc (b := true) (show fl_cmp 4 x y = some true from congrArg some (decide_eq_true hp))
    refine Or.inl ⟨?_, this⟩
    exact Int32.lt_iff_toInt_lt.mp hp
  · have := b7_go e hc (b := false) (show fl_cmp 4 x y = some false from congrArg some (decide_eq_false hp))
    refine Or.inr ⟨?_, this⟩
    exact Int.not_lt.mp fun z => hp (Int32.lt_iff_toInt_lt.mpr z)
theorem b6_5 (e : Ev d m (pc, ls, .int x :: st, h, n) r) (hc : fl_code m pc = some (6, [5, t], nx)) (hT : t.toNat = T) (ex : x.toInt = X) : (X ≤ 0 ∧ Ev d m (T, ls, st, h, n) r) ∨ (0 < X ∧ Ev d m (nx, ls, st, h, n) r) := by
  subst hT ex
  by_cases hp : x ≤ 0
  · have := b6_go e hc (b := true) (show fl_cmp 5 x 0 = some true from congrArg some (decide_eq_true hp))
    refine Or.inl ⟨?_, this⟩
    exact Int32.le_iff_toInt_le.mp hp
  · have := b6_go e hc (b := false) (show fl_cmp 5 x 0 = some false from congrArg some (decide_eq_false hp))
    refine Or.inr ⟨?_, this⟩
    exact Int.not_le.mp fun z => hp (Int32.le_iff_toInt_le.mpr z)
theorem b7_5 (e : Ev d m (pc, ls, .int y :: .int x :: st, h, n) r) (hc : fl_code m pc = some (7, [5, t], nx)) (hT : t.toNat = T) (ex : x.toInt = X) (ey : y.toInt = Y) : (X ≤ Y ∧ Ev d m (T, ls, st, h, n) r) ∨ (Y < X ∧ Ev d m (nx, ls, st, h, n) r) := by
  subst hT ex ey
  by_cases hp : x ≤ y
  · have := b7_go e hc (b := true) (show fl_cmp 5 x y = some true from congrArg some (decide_eq_true hp))
    refine Or.inl ⟨?_, this⟩
    exact Int32.le_iff_toInt_le.mp hp
  · have := b7_go e hc (b := false) (show fl_cmp 5 x y = some false from congrArg some (decide_eq_false hp))
    refine Or.inr ⟨?_, this⟩
    exact Int.not_le.mp fun z => hp (Int32.le_iff_toInt_le.mpr z)
def swP (d m n : Nat) (ls : List (Option Value)) (st : List Value) (h : Hp) (r : Option Value × Hp × Nat) (X df : Int) : Int → List Int → Prop
  | _, [] => Ev d m (df.toNat, ls, st, h, n) r
  | lo, t :: ts => (X = lo ∧ Ev d m (t.toNat, ls, st, h, n) r) ∨ (X ≠ lo ∧ swP d m n ls st h r X df (lo + 1) ts)
theorem sw_df {df : Int} (e : Ev d m (df.toNat, ls, st, h, n) r) : ∀ (ts : List Int) (lo : Int), (X < lo ∨ lo + ts.length ≤ X) → swP d m n ls st h r X df lo ts
  | [], _, _ => e
  | t :: ts, lo, hx => by
    rw [List.length_cons] at hx
    exact Or.inr ⟨by omega, sw_df e ts (lo + 1) (by omega)⟩
theorem sw_at {df : Int} {t : Int} (e : Ev d m (t.toNat, ls, st, h, n) r) : ∀ (ts : List Int) (lo : Int) (k : Nat), X = lo + k → ts[k]? = some t → swP d m n ls st h r X df lo ts
  | [], _, _, _, hk => by cases hk
  | t' :: ts, lo, 0, hx, hk => by
    cases hk
    exact Or.inl ⟨by omega, e⟩
  | t' :: ts, lo, k + 1, hx, hk => Or.inr ⟨by omega, sw_at e ts (lo + 1) k (by omega) hk⟩
theorem b40 {lo df : Int} {ts : List Int} (e : Ev d m (pc, ls, .int x :: st, h, n) r) (hc : fl_code m pc = some (40, lo :: df :: ts, nx)) (ex : x.toInt = X) : swP d m n ls st h r X df lo ts := by
  subst ex
  obtain ⟨o', s1, s2⟩ := e.inv hc
  simp only [fl_step] at s1
  split at s1
  · cases s1
    exact sw_df s2 ts lo (by omega)
  · split at s1
    · rename_i hlt tt ht
      cases s1
      exact sw_at s2 ts lo _ (by omega) ht
    · rename_i hlt ht
      cases s1
      refine sw_df s2 ts lo ?_
      have := List.getElem?_eq_none_iff.mp ht
      omega
theorem b_call {op k m2 nL : Nat} {as rest : List Value} {L : List (Option Value)} (e : Ev d m (pc, ls, st, h, fl_tot) r) (hc : fl_code m pc = some (op, [(m2 : Int), (k : Int)], nx)) (ho : (op == 18 || op == 19 || op == 20) = true) (hy : ((sm_ms[m2]?).map fun y => y.2.2.1) = some nL) (h1 : (st.take (k + if op = 19 then 0 else 1)).reverse = as) (h2 : st.drop (k + if op = 19 then 0 else 1) = rest) (hL : fl_enter nL as = L) : ∃ d' v h2 n2, d = d' + 1 ∧ Ev d' m2 (0, L, [], h, fl_tot) (v, h2, n2) ∧ Ev d m (nx, ls, v.toList ++ rest, h2, n2) r := by
  obtain ⟨o', s1, s2⟩ := e.inv hc
  have key : ∃ as' rest', o' = .inr (.inl (m2, as', rest', nx)) ∧ as' = as ∧ rest' = rest := by
    simp only [Bool.or_eq_true, beq_iff_eq] at ho
    rcases ho with (rfl | rfl) | rfl
    · simp only [fl_step, fl_call, Int.toNat_natCast] at s1
      split at s1
      · cases s1
      · split at s1
        · simp only [if_true] at s1
          split at s1
          · split at s1
            · cases s1
              exact ⟨_, _, rfl, h1, h2⟩
            · cases s1
          · cases s1
        · cases s1
    · simp only [fl_step, fl_call, Int.toNat_natCast] at s1
      split at s1
      · cases s1
      · split at s1
        · simp at s1
          cases s1
          exact ⟨_, _, rfl, by simpa using h1, by simpa using h2⟩
        · cases s1
    · simp only [fl_step, fl_call, Int.toNat_natCast] at s1
      split at s1
      · cases s1
      · split at s1
        · rw [if_neg (by decide)] at s1
          rw [if_pos trivial] at s1
          split at s1
          · cases s1
            exact ⟨_, _, rfl, h1, h2⟩
          · cases s1
        · cases s1
  obtain ⟨as', rest', rfl, rfl, rfl⟩ := key
  obtain ⟨d', y, v, h3, n3, z1, z2, z3, z4⟩ := s2
  rw [z2] at hy
  have hn : y.2.2.1 = nL := Option.some.inj hy
  rw [hn, hL] at z3
  exact ⟨d', v, h3, n3, z1, z3, z4⟩
theorem b21 {a : List Int} (e : Ev d m (pc, ls, [], h, n) r) (hc : fl_code m pc = some (21, a, nx)) : r = (none, h, n) := by
  obtain ⟨o', s1, s2⟩ := e.inv hc
  simp only [fl_step] at s1
  cases s1
  exact s2
theorem b22 {a : List Int} (e : Ev d m (pc, ls, [.int x], h, n) r) (hc : fl_code m pc = some (22, a, nx)) : r = (some (.int x), h, n) := by
  obtain ⟨o', s1, s2⟩ := e.inv hc
  simp only [fl_step] at s1
  split at s1
  · rename_i hq
    split at s1
    · cases s1
      cases hq
      exact s2
    · cases s1
  · cases s1
theorem b23 {a : List Int} {z : Int64} (e : Ev d m (pc, ls, [.long z], h, n) r) (hc : fl_code m pc = some (23, a, nx)) : r = (some (.long z), h, n) := by
  obtain ⟨o', s1, s2⟩ := e.inv hc
  simp only [fl_step] at s1
  cases s1
  exact s2
theorem b24 {a : List Int} {b : Nat} (e : Ev d m (pc, ls, [.ref b], h, n) r) (hc : fl_code m pc = some (24, a, nx)) : r = (some (.ref b), h, n) := by
  obtain ⟨o', s1, s2⟩ := e.inv hc
  simp only [fl_step] at s1
  cases s1
  exact s2
theorem b24n {a : List Int} (e : Ev d m (pc, ls, [.null], h, n) r) (hc : fl_code m pc = some (24, a, nx)) : r = (some .null, h, n) := by
  obtain ⟨o', s1, s2⟩ := e.inv hc
  simp only [fl_step] at s1
  cases s1
  exact s2
theorem fl_in_iff {i : Int32} {N : Nat} (h : fl_in i N = true) : 0 ≤ i.toInt ∧ i.toNatClampNeg < N ∧ (i.toNatClampNeg : Int) = i.toInt := by
  unfold fl_in at h
  rw [Bool.and_eq_true, decide_eq_true_eq, decide_eq_true_eq] at h
  have h0 : 0 ≤ i.toInt := Int.not_lt.mp fun z => h.1 (Int32.lt_iff_toInt_lt.mpr z)
  exact ⟨h0, h.2, lc_clamp h0⟩
/-- a reference out of an array -/
theorem b15 {a : List Int} {i : Int32} {R b code N : Nat} (e : Ev d m (pc, ls, .int i :: .ref R :: st, h, n) r) (hc : fl_code m pc = some (15, a, nx)) (hl : fl_lay R = (code, N)) (hb : i.toNatClampNeg < N → h.2 R i.toNatClampNeg = some b) : 0 ≤ i.toInt ∧ i.toNatClampNeg < N ∧ (i.toNatClampNeg : Int) = i.toInt ∧ Ev d m (nx, ls, .ref b :: st, h, n) r := by
  obtain ⟨o', s1, s2⟩ := e.inv hc
  simp only [fl_step] at s1
  split at s1
  · rename_i hq
    have g := fl_in_iff (show fl_in i N = true by have := hq.2.2.2; rw [hl] at this; exact this)
    cases s1
    have s2 : Ev d m (nx, ls, fl_rv (h.2 R i.toNatClampNeg) :: st, h, n) r := s2
    rw [hb g.2.1] at s2
    exact ⟨g.1, g.2.1, g.2.2, s2⟩
  · cases s1
/-- bounds of a place of an array that is read (11, 13) or written (12, 14) -/
theorem b11 {op : Nat} {a : List Int} {i : Int32} {R code N : Nat} (e : Ev d m (pc, ls, .int i :: .ref R :: st, h, n) r) (hc : fl_code m pc = some (op, a, nx)) (ho : (op == 11 || op == 13) = true) (h1 : R < 1000) (hl : fl_lay R = (code, N)) : 0 ≤ i.toInt ∧ i.toNatClampNeg < N ∧ (i.toNatClampNeg : Int) = i.toInt := by
  obtain ⟨o', s1, s2⟩ := e.inv hc
  simp only [Bool.or_eq_true, beq_iff_eq] at ho
  rcases ho with rfl | rfl
  · simp only [fl_step] at s1
    split at s1
    · rename_i hq
      rw [Bool.and_eq_true] at hq
      refine fl_in_iff ?_
      have := hq.2
      unfold fl_len at this
      rw [if_pos h1, hl] at this
      exact this
    · cases s1
  · simp only [fl_step] at s1
    split at s1
    · rename_i hq
      have := hq.2.2
      rw [hl] at this
      exact fl_in_iff this
    · cases s1
theorem b12 {op : Nat} {a : List Int} {i : Int32} {R code N : Nat} (e : Ev d m (pc, ls, .int x :: .int i :: .ref R :: st, h, n) r) (hc : fl_code m pc = some (op, a, nx)) (ho : (op == 12 || op == 14) = true) (hl : fl_lay R = (code, N)) : 0 ≤ i.toInt ∧ i.toNatClampNeg < N ∧ (i.toNatClampNeg : Int) = i.toInt := by
  obtain ⟨o', s1, s2⟩ := e.inv hc
  simp only [Bool.or_eq_true, beq_iff_eq] at ho
  rcases ho with rfl | rfl
  · simp only [fl_step] at s1
    split at s1
    · rename_i hq
      have := hq.2.2
      rw [hl] at this
      exact fl_in_iff this
    · cases s1
  · simp only [fl_step] at s1
    split at s1
    · rename_i hq
      have := hq.2.2.1
      rw [hl] at this
      exact fl_in_iff this
    · cases s1
/-- a reference into an array -/
theorem b16 {a : List Int} {i : Int32} {R b code N : Nat} (e : Ev d m (pc, ls, .ref b :: .int i :: .ref R :: st, h, n) r) (hc : fl_code m pc = some (16, a, nx)) (hl : fl_lay R = (code, N)) : 0 ≤ i.toInt ∧ i.toNatClampNeg < N ∧ (i.toNatClampNeg : Int) = i.toInt ∧ Ev d m (nx, ls, st, fl_setR h R i.toNatClampNeg (some b), n) r := by
  obtain ⟨o', s1, s2⟩ := e.inv hc
  simp only [fl_step] at s1
  split at s1
  · rename_i hq
    have g := fl_in_iff (show fl_in i N = true by have := hq.2.2.2.1; rw [hl] at this; exact this)
    cases s1
    exact ⟨g.1, g.2.1, g.2.2, s2⟩
  · cases s1
end BR
theorem tri {a a' : Option Value} {h h' : Hp} {n n' : Nat} (e : (a, h, n) = (a', h', n')) : a = a' ∧ h = h' ∧ n = n' := by
  cases e
  exact ⟨rfl, rfl, rfl⟩
theorem rI (h : Hp) (r k : Nat) (x : Int32) (r' k' : Nat) : (fl_setI h r k x).1 r' k' = if r' = r ∧ k' = k then x else h.1 r' k' := rfl
theorem rI2 (h : Hp) (r k : Nat) (x : Int32) : (fl_setI h r k x).2 = h.2 := rfl
theorem rR1 (h : Hp) (r k : Nat) (x : Option Nat) : (fl_setR h r k x).1 = h.1 := rfl
theorem rR (h : Hp) (r k : Nat) (x : Option Nat) (r' k' : Nat) : (fl_setR h r k x).2 r' k' = if r' = r ∧ k' = k then x else h.2 r' k' := rfl
theorem setI_no {h : Hp} {r k : Nat} {x : Int32} {r' k' : Nat} (hn : ¬ (r' = r ∧ k' = k)) : (fl_setI h r k x).1 r' k' = h.1 r' k' := if_neg hn
