/-! THE SAME RUN ON HEAPS THAT AGREE WHERE IT READS: V, the slots that count -/
abbrev VS : Type := Nat → Nat → Bool
def vset (V : VS) (r k : Nat) : VS := fun a b => decide (a = r ∧ b = k) || V a b
/-- may the step read what it reads -/
def vOK (q : Smi) (st : List Value) (V : VS) : Bool :=
  if q.1 = 9 then (match q.2.1, st with
    | [_, k], .ref r :: _ => V r k.toNat
    | _, _ => true)
  else if q.1 = 11 ∨ q.1 = 13 then (match st with
    | .int i :: .ref r :: _ => decide (r < 1010) && V r i.toNatClampNeg
    | _ => true)
  else if q.1 = 17 then (match st with
    | .ref r :: _ => decide (r < 1010)
    | _ => true)
  else decide (q.1 < 29 ∨ 32 ≤ q.1 ∧ q.1 ≠ 41)
/-- what counts behind the step -/
def vW (q : Smi) (st : List Value) (V : VS) : VS :=
  if q.1 = 10 then (match q.2.1, st with
    | [_, k], .int _ :: .ref r :: _ => vset V r k.toNat
    | _, _ => V)
  else if q.1 = 12 ∨ q.1 = 14 then (match st with
    | .int _ :: .int i :: .ref r :: _ => vset V r i.toNatClampNeg
    | _ => V)
  else V
def agree (V : VS) (h g : Hp) : Prop := h.2 = g.2 ∧ ∀ r k, V r k = true → h.1 r k = g.1 r k
theorem agree.setI {V : VS} {h g : Hp} (ha : agree V h g) (r k : Nat) (x : Int32) : agree (vset V r k) (fl_setI h r k x) (fl_setI g r k x) := by
  refine ⟨ha.1, fun a b hv => ?_⟩
  simp only [fl_setI]
  by_cases hab : a = r ∧ b = k
  · rw [if_pos hab, if_pos hab]
  · rw [if_neg hab, if_neg hab]
    refine ha.2 a b ?_
    simpa [vset, hab] using hv
theorem agree.setR {V : VS} {h g : Hp} (ha : agree V h g) (r k : Nat) (x : Option Nat) : agree V (fl_setR h r k x) (fl_setR g r k x) := by
  refine ⟨?_, ha.2⟩
  simp only [fl_setR, ha.1]
abbrev Ag (q : Smi) (pc : Nat) (ls : List (Option Value)) (st : List Value) (n : Nat) (V : VS) (g : Hp) (o : Out) : Prop :=
  (∃ (pc' : Nat) (ls' : List (Option Value)) (st' : List Value) (h' : Hp) (n' : Nat) (g' : Hp), o = .inl (pc', ls', st', h', n') ∧ fl_step q (pc, ls, st, g, n) = some (.inl (pc', ls', st', g', n')) ∧ agree (vW q st V) h' g') ∨ (∃ x, o = .inr x ∧ fl_step q (pc, ls, st, g, n) = some (.inr x))
theorem call_inr {b : Bool} {i m k nx : Nat} {ls : List (Option Value)} {st : List Value} {h : Hp} {n : Nat} {o : Out} (hs : fl_call b i m k nx ls st h n = some o) : ∃ x, o = .inr x := by
  unfold fl_call at hs
  simp only at hs
  (repeat' split at hs) <;> first | (cases hs; done) | (cases hs; exact ⟨_, rfl⟩)
theorem step_agree {q : Smi} {pc : Nat} {ls : List (Option Value)} {st : List Value} {h g : Hp} {n : Nat} {V : VS} {o : Out} (hs : fl_step q (pc, ls, st, h, n) = some o) (hv : vOK q st V = true) (ha : agree V h g) : Ag q pc ls st n V g o := by
  obtain ⟨op, a, nx⟩ := q
  unfold fl_step at hs
  simp only at hs
  split at hs
  -- 1
  · (repeat' split at hs) <;> first | (cases hs; done) | (cases hs; exact Or.inl ⟨_, _, _, _, _, g, rfl, by simp only [fl_step], ha⟩)
  -- 2
  · (repeat' split at hs) <;> first | (cases hs; done) | (cases hs; exact Or.inl ⟨_, _, _, _, _, g, rfl, by simp [fl_step, *], ha⟩)
  -- 3
  · (repeat' split at hs) <;> first | (cases hs; done) | (cases hs; exact Or.inl ⟨_, _, _, _, _, g, rfl, by simp [fl_step, *], ha⟩)
  -- 4
  · (repeat' split at hs) <;> first | (cases hs; done) | (cases hs; exact Or.inl ⟨_, _, _, _, _, g, rfl, by simp [fl_step, *], ha⟩)
  -- 5
  · (repeat' split at hs) <;> first | (cases hs; done) | (cases hs; exact Or.inl ⟨_, _, _, _, _, g, rfl, by simp [fl_step, *], ha⟩)
  -- 6
  · (repeat' split at hs) <;> first | (cases hs; done) | (cases hs; exact Or.inl ⟨_, _, _, _, _, g, rfl, by simp [fl_step, *], ha⟩)
  -- 7
  · (repeat' split at hs) <;> first | (cases hs; done) | (cases hs; exact Or.inl ⟨_, _, _, _, _, g, rfl, by simp [fl_step, *], ha⟩)
  -- 8
  · (repeat' split at hs) <;> first | (cases hs; done) | (cases hs; exact Or.inl ⟨_, _, _, _, _, g, rfl, by simp [fl_step, *], ha⟩)
  -- 9
  · split at hs
    · rename_i ci k r st
      split at hs
      · rename_i hc
        have hv' : V r k.toNat = true := hv
        split at hs
        · rename_i hk
          cases hs
          exact Or.inl ⟨_, _, _, _, _, g, rfl, by simp only [fl_step]; rw [if_pos hc, hk]; simp only [ha.2 _ _ hv'], ha⟩
        · rename_i hk
          cases hs
          exact Or.inl ⟨_, _, _, _, _, g, rfl, by simp only [fl_step]; rw [if_pos hc, hk]; simp only [ha.2 _ _ hv'], ha⟩
        · rename_i hk
          cases hs
          exact Or.inl ⟨_, _, _, _, _, g, rfl, by simp only [fl_step]; rw [if_pos hc, hk]; simp only [ha.1], ha⟩
        · cases hs
      · cases hs
    · cases hs
  -- 10
  · split at hs
    · rename_i ci k v r st
      split at hs
      · rename_i hc
        split at hs
        · rename_i x hk
          cases hs
          exact Or.inl ⟨_, _, _, _, _, _, rfl, by simp only [fl_step]; rw [if_pos hc, hk] <;> rfl, ha.setI r k.toNat x⟩
        · rename_i x hk
          split at hs
          · rename_i hb
            cases hs
            exact Or.inl ⟨_, _, _, _, _, _, rfl, by simp only [fl_step]; rw [if_pos hc, hk]; simp only [if_pos hb], ha.setI r k.toNat x⟩
          · cases hs
        · rename_i b hk
          cases hs
          exact Or.inl ⟨_, _, _, _, _, _, rfl, by simp only [fl_step]; rw [if_pos hc, hk] <;> rfl, ha.setR r k.toNat (some b)⟩
        · rename_i hk
          cases hs
          exact Or.inl ⟨_, _, _, _, _, _, rfl, by simp only [fl_step]; rw [if_pos hc, hk] <;> rfl, ha.setR r k.toNat none⟩
        · cases hs
      · cases hs
    · cases hs
  -- 11
  · split at hs
    · rename_i i r st
      have hvb : (decide (r < 1010) && V r i.toNatClampNeg) = true := hv
      rw [Bool.and_eq_true, decide_eq_true_eq] at hvb
      have hv' := hvb.2
      split at hs
      · rename_i hc
        cases hs
        refine Or.inl ⟨_, _, _, _, _, g, rfl, ?_, ha⟩
        simp only [fl_step]
        have hlen : fl_len g r = fl_len h r := by
          unfold fl_len
          rw [if_neg (Nat.ne_of_lt hvb.1), if_neg (Nat.ne_of_lt hvb.1)]
        rw [hlen, if_pos hc, ha.2 _ _ hv']
      · cases hs
    · cases hs
  -- 12
  · split at hs
    · rename_i x i r st
      split at hs
      · rename_i hc
        cases hs
        exact Or.inl ⟨_, _, _, _, _, _, rfl, by simp only [fl_step]; rw [if_pos hc], ha.setI r i.toNatClampNeg x⟩
      · cases hs
    · cases hs
  -- 13
  · split at hs
    · rename_i i r st
      have hvb : (decide (r < 1010) && V r i.toNatClampNeg) = true := hv
      rw [Bool.and_eq_true, decide_eq_true_eq] at hvb
      have hv' := hvb.2
      split at hs
      · rename_i hc
        cases hs
        exact Or.inl ⟨_, _, _, _, _, g, rfl, by simp only [fl_step]; rw [if_pos hc, ha.2 _ _ hv'], ha⟩
      · cases hs
    · cases hs
  -- 14
  · split at hs
    · rename_i x i r st
      split at hs
      · rename_i hc
        cases hs
        exact Or.inl ⟨_, _, _, _, _, _, rfl, by simp only [fl_step]; rw [if_pos hc], ha.setI r i.toNatClampNeg x⟩
      · cases hs
    · cases hs
  -- 15
  · split at hs
    · rename_i i r st
      split at hs
      · rename_i hc
        cases hs
        exact Or.inl ⟨_, _, _, _, _, g, rfl, by simp only [fl_step]; rw [if_pos hc]; simp only [ha.1], ha⟩
      · cases hs
    · cases hs
  -- 16
  · split at hs
    · rename_i b i r st
      split at hs
      · rename_i hc
        cases hs
        exact Or.inl ⟨_, _, _, _, _, _, rfl, by simp only [fl_step]; rw [if_pos hc], ha.setR r i.toNatClampNeg (some b)⟩
      · cases hs
    · cases hs
  -- 17
  · split at hs
    · rename_i r st
      have hv' : r < 1010 := of_decide_eq_true hv
      split at hs
      · rename_i hc
        cases hs
        refine Or.inl ⟨_, _, _, _, _, g, rfl, ?_, ha⟩
        simp only [fl_step]
        have hlen : fl_len g r = fl_len h r := by
          unfold fl_len
          rw [if_neg (Nat.ne_of_lt hv'), if_neg (Nat.ne_of_lt hv')]
        rw [if_pos hc, hlen]
      · cases hs
    · cases hs
  -- 18
  · split at hs
    · have e : ∀ b i m k, fl_call b i m k nx ls st h n = fl_call b i m k nx ls st g n := fun b i m k => rfl
      rcases call_inr hs with ⟨x, rfl⟩
      exact Or.inr ⟨x, rfl, by simp only [fl_step]; rw [← hs]; rfl⟩
    · cases hs
  -- 19
  · split at hs
    · have e : ∀ b i m k, fl_call b i m k nx ls st h n = fl_call b i m k nx ls st g n := fun b i m k => rfl
      rcases call_inr hs with ⟨x, rfl⟩
      exact Or.inr ⟨x, rfl, by simp only [fl_step]; rw [← hs]; rfl⟩
    · cases hs
  -- 20
  · split at hs
    · have e : ∀ b i m k, fl_call b i m k nx ls st h n = fl_call b i m k nx ls st g n := fun b i m k => rfl
      rcases call_inr hs with ⟨x, rfl⟩
      exact Or.inr ⟨x, rfl, by simp only [fl_step]; rw [← hs]; rfl⟩
    · cases hs
  -- 21
  · (repeat' split at hs) <;> first | (cases hs; done) | (cases hs; exact Or.inr ⟨_, rfl, by simp [fl_step, *]⟩)
  -- 22
  · (repeat' split at hs) <;> first | (cases hs; done) | (cases hs; exact Or.inr ⟨_, rfl, by simp [fl_step, *]⟩)
  -- 23
  · (repeat' split at hs) <;> first | (cases hs; done) | (cases hs; exact Or.inr ⟨_, rfl, by simp [fl_step, *]⟩)
  -- 24
  · (repeat' split at hs) <;> first | (cases hs; done) | (cases hs; exact Or.inr ⟨_, rfl, by simp [fl_step, *]⟩)
  -- 25
  · (repeat' split at hs) <;> first | (cases hs; done) | (cases hs; exact Or.inl ⟨_, _, _, _, _, g, rfl, by simp [fl_step, *], ha⟩)
  -- 26
  · (repeat' split at hs) <;> first | (cases hs; done) | (cases hs; exact Or.inl ⟨_, _, _, _, _, g, rfl, by simp [fl_step, *], ha⟩)
  -- 27
  · (repeat' split at hs) <;> first | (cases hs; done) | (cases hs; exact Or.inl ⟨_, _, _, _, _, g, rfl, by simp [fl_step, *], ha⟩)
  -- 28
  · (repeat' split at hs) <;> first | (cases hs; done) | (cases hs; exact Or.inl ⟨_, _, _, _, _, g, rfl, by simp [fl_step, *], ha⟩)
  -- 29
  · exact absurd hv (by simp [vOK])
  -- 30
  · exact absurd hv (by simp [vOK])
  -- 31
  · exact absurd hv (by simp [vOK])
  -- 32
  · (repeat' split at hs) <;> first | (cases hs; done) | (cases hs; exact Or.inl ⟨_, _, _, _, _, g, rfl, by simp [fl_step, *], ha⟩)
  -- 33
  · (repeat' split at hs) <;> first | (cases hs; done) | (cases hs; exact Or.inl ⟨_, _, _, _, _, g, rfl, by simp [fl_step, *], ha⟩)
  -- 34
  · (repeat' split at hs) <;> first | (cases hs; done) | (cases hs; exact Or.inl ⟨_, _, _, _, _, g, rfl, by simp [fl_step, *], ha⟩)
  -- 35
  · (repeat' split at hs) <;> first | (cases hs; done) | (cases hs; exact Or.inl ⟨_, _, _, _, _, g, rfl, by simp [fl_step, *], ha⟩)
  -- 36
  · (repeat' split at hs) <;> first | (cases hs; done) | (cases hs; exact Or.inl ⟨_, _, _, _, _, g, rfl, by simp [fl_step, *], ha⟩)
  -- 37
  · (repeat' split at hs) <;> first | (cases hs; done) | (cases hs; exact Or.inl ⟨_, _, _, _, _, g, rfl, by simp [fl_step, *], ha⟩)
  -- 38
  · (repeat' split at hs) <;> first | (cases hs; done) | (cases hs; exact Or.inl ⟨_, _, _, _, _, g, rfl, by simp [fl_step, *], ha⟩)
  -- 39
  · (repeat' split at hs) <;> first | (cases hs; done) | (cases hs; exact Or.inl ⟨_, _, _, _, _, g, rfl, by simp [fl_step, *], ha⟩)
  -- 40
  · (repeat' split at hs) <;> first | (cases hs; done) | (cases hs; exact Or.inl ⟨_, _, _, _, _, g, rfl, by simp [fl_step, *], ha⟩)
  -- 41
  · exact absurd hv (by simp [vOK])
  -- 42
  · (repeat' split at hs) <;> first | (cases hs; done) | (cases hs; exact Or.inl ⟨_, _, _, _, _, g, rfl, by simp [fl_step, *], ha⟩)
  · cases hs
/-- the machine that reads only what counts -/
def fl_runV : Nat → Nat → Nat → Cfg → VS → Option (Option Value × Hp × Nat × VS)
  | 0, _, _, _, _ => none
  | f + 1, d, m, c, V => match fl_code m c.1 with
    | none => none
    | some q => if vOK q c.2.2.1 V = true then (match fl_step q c with
      | none => none
      | some (.inl c') => fl_runV f d m c' (vW q c.2.2.1 V)
      | some (.inr (.inr v)) => some (v, c.2.2.2.1, c.2.2.2.2, V)
      | some (.inr (.inl (m2, as, rest, nx))) => match d with
        | 0 => none
        | d' + 1 => match sm_ms[m2]? with
          | none => none
          | some y => if (fl_args as).length ≤ y.2.2.1 then (match fl_runV f d' m2 (0, fl_enter y.2.2.1 as, [], c.2.2.2.1, c.2.2.2.2) V with
            | none => none
            | some (v, h, n, V') => fl_runV f d m (nx, c.2.1, v.toList ++ rest, h, n) V') else none) else none
theorem runV_run : ∀ (f d m : Nat) (c : Cfg) (V : VS) (v : Option Value) (h : Hp) (n : Nat) (V' : VS), fl_runV f d m c V = some (v, h, n, V') → fl_run f d m c = some (v, h, n) := by
  intro f
  induction f with
  | zero => intro d m c V v h n V' hr; cases hr
  | succ f ih =>
    intro d m c V v h n V' hr
    unfold fl_runV at hr
    unfold fl_run
    cases hc : fl_code m c.1 with
    | none => rw [hc] at hr; cases hr
    | some q =>
      rw [hc] at hr
      simp only at hr ⊢
      split at hr
      · cases hs : fl_step q c with
        | none => rw [hs] at hr; cases hr
        | some o =>
          rw [hs] at hr
          rcases o with c' | ⟨m2, as, rest, nx⟩ | v2
          · simp only at hr ⊢
            exact ih _ _ _ _ _ _ _ _ hr
          · simp only at hr ⊢
            cases d with
            | zero => cases hr
            | succ d =>
              simp only at hr ⊢
              cases hy : sm_ms[m2]? with
              | none => rw [hy] at hr; cases hr
              | some y =>
                rw [hy] at hr
                simp only at hr ⊢
                by_cases hl : (fl_args as).length ≤ y.2.2.1
                · rw [if_pos hl] at hr ⊢
                  cases hr2 : fl_runV f d m2 (0, fl_enter y.2.2.1 as, [], c.2.2.2.1, c.2.2.2.2) V with
                  | none => rw [hr2] at hr; cases hr
                  | some w =>
                    obtain ⟨v2, h2, n2, V2⟩ := w
                    rw [hr2] at hr
                    rw [ih _ _ _ _ _ _ _ _ hr2]
                    simp only at hr ⊢
                    exact ih _ _ _ _ _ _ _ _ hr
                · rw [if_neg hl] at hr; cases hr
          · cases hr; rfl
      · cases hr
/-- on a heap that agrees, the run is the same -/
theorem runV_agree : ∀ (f d m pc : Nat) (ls : List (Option Value)) (st : List Value) (h g : Hp) (n : Nat) (V : VS) (v : Option Value) (h' : Hp) (n' : Nat) (V' : VS), fl_runV f d m (pc, ls, st, h, n) V = some (v, h', n', V') → agree V h g → ∃ g', fl_runV f d m (pc, ls, st, g, n) V = some (v, g', n', V') ∧ agree V' h' g' := by
  intro f
  induction f with
  | zero => intro d m pc ls st h g n V v h' n' V' hr; cases hr
  | succ f ih =>
    intro d m pc ls st h g n V v h' n' V' hr ha
    unfold fl_runV at hr ⊢
    cases hc : fl_code m pc with
    | none => rw [hc] at hr; cases hr
    | some q =>
      rw [hc] at hr
      simp only at hr ⊢
      by_cases hv : vOK q st V = true
      · rw [if_pos hv] at hr ⊢
        cases hs : fl_step q (pc, ls, st, h, n) with
        | none => rw [hs] at hr; cases hr
        | some o =>
          rw [hs] at hr
          rcases step_agree hs hv ha with ⟨pc', ls', st', h2, n2, g2, rfl, e2, e3⟩ | ⟨x, rfl, e2⟩
          · simp only at hr
            rw [e2]
            simp only
            exact ih _ _ _ _ _ _ _ _ _ _ _ _ _ hr e3
          · rw [e2]
            rcases x with ⟨m2, as, rest, nx⟩ | v2
            · simp only at hr ⊢
              cases d with
              | zero => cases hr
              | succ d =>
                simp only at hr ⊢
                cases hy : sm_ms[m2]? with
                | none => rw [hy] at hr; cases hr
                | some y =>
                  rw [hy] at hr
                  simp only at hr ⊢
                  by_cases hl : (fl_args as).length ≤ y.2.2.1
                  · rw [if_pos hl] at hr ⊢
                    cases hr2 : fl_runV f d m2 (0, fl_enter y.2.2.1 as, [], h, n) V with
                    | none => rw [hr2] at hr; cases hr
                    | some w =>
                      obtain ⟨v2, h2, n2, V2⟩ := w
                      rw [hr2] at hr
                      obtain ⟨g2, z1, z2⟩ := ih _ _ _ _ _ _ _ _ _ _ _ _ _ hr2 ha
                      rw [z1]
                      simp only at hr ⊢
                      exact ih _ _ _ _ _ _ _ _ _ _ _ _ _ hr z2
                  · rw [if_neg hl] at hr; cases hr
            · cases hr
              exact ⟨g, rfl, ha⟩
      · rw [if_neg hv] at hr; cases hr
