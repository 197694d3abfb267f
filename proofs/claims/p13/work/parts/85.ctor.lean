set_option maxRecDepth 20000
/-! THE CONSTRUCTORS: the flat machine over lists of what was written -/
abbrev CL : Type := List (Nat × Nat × Nat) × List (Nat × Nat × Int32)
abbrev CC : Type := Nat × List (Option Value) × List Value × CL × Nat
def hpR (b : Nat → Nat → Option Nat) : List (Nat × Nat × Nat) → Nat → Nat → Option Nat
  | [] => b
  | e :: l => fun r j => if r = e.1 ∧ j = e.2.1 then some e.2.2 else hpR b l r j
def hpI (b : Nat → Nat → Int32) : List (Nat × Nat × Int32) → Nat → Nat → Int32
  | [] => b
  | e :: l => fun r j => if r = e.1 ∧ j = e.2.1 then e.2.2 else hpI b l r j
def hpL (g : Hp) (L : CL) : Hp := (hpI g.1 L.2, hpR g.2 L.1)
def lkR : List (Nat × Nat × Nat) → Nat → Nat → Option Nat
  | [], _, _ => none
  | e :: l, r, j => if r = e.1 ∧ j = e.2.1 then some e.2.2 else lkR l r j
theorem lkR_ok {b : Nat → Nat → Option Nat} {r j v : Nat} : ∀ {l : List (Nat × Nat × Nat)}, lkR l r j = some v → hpR b l r j = some v
  | [], h => by cases h
  | e :: l, h => by
    unfold lkR at h
    show (if r = e.1 ∧ j = e.2.1 then some e.2.2 else hpR b l r j) = some v
    split at h
    · rename_i z; rw [if_pos z]; exact h
    · rename_i z; rw [if_neg z]; exact lkR_ok h
theorem lkR_no {b : Nat → Nat → Option Nat} {r j : Nat} : ∀ {l : List (Nat × Nat × Nat)}, lkR l r j = none → hpR b l r j = b r j
  | [], _ => rfl
  | e :: l, h => by
    unfold lkR at h
    show (if r = e.1 ∧ j = e.2.1 then some e.2.2 else hpR b l r j) = b r j
    split at h
    · cases h
    · rename_i z; rw [if_neg z]; exact lkR_no h
theorem hpI_or {b : Nat → Nat → Int32} {r j : Nat} : ∀ {l : List (Nat × Nat × Int32)}, hpI b l r j = b r j ∨ ∃ e ∈ l, e.1 = r ∧ e.2.1 = j ∧ hpI b l r j = e.2.2
  | [] => Or.inl rfl
  | e :: l => by
    have d : hpI b (e :: l) r j = if r = e.1 ∧ j = e.2.1 then e.2.2 else hpI b l r j := rfl
    rw [d]
    by_cases z : r = e.1 ∧ j = e.2.1
    · exact Or.inr ⟨e, List.mem_cons_self, z.1.symm, z.2.symm, by rw [if_pos z]⟩
    · rw [if_neg z]
      rcases hpI_or (b := b) (r := r) (j := j) (l := l) with h | ⟨x, h1, h2⟩
      · exact Or.inl h
      · exact Or.inr ⟨x, List.mem_cons_of_mem _ h1, h2⟩
/-- cells that are not made hold nothing -/
def cmG (g : Hp) (L : CL) (n : Nat) : Prop := ∀ r j, n ≤ r → r < 1000 → (hpL g L).1 r j = 0 ∧ (hpL g L).2 r j = none
def cm_pure (op : Nat) : Bool := op == 1 || op == 2 || op == 3 || op == 4 || op == 7 || op == 8 || op == 25 || op == 32 || op == 42
def cm_ctl (op : Nat) : Bool := op == 18 || op == 19 || op == 20 || op == 21
def cm_h : Hp := (fun _ _ => 0, fun _ _ => none)
def cm_mem (q : Smi) (c : CC) : Option CC := match q, c with
  | (op, a, nx), (_, ls, st, L, n) => match op, a, st with
    | 9, [ci, k], .ref r :: st => if r < n ∧ fl_lay r = (ci.toNat, (fl_N[ci.toNat]?).getD 0) ∧ fl_kind ci.toNat k.toNat = 2 then (match lkR L.1 r k.toNat with
      | some b => some (nx, ls, .ref b :: st, L, n)
      | none => none) else none
    | 10, [ci, k], .int x :: .ref r :: st => if r < n ∧ fl_lay r = (ci.toNat, (fl_N[ci.toNat]?).getD 0) ∧ fl_kind ci.toNat k.toNat = 0 then some (nx, ls, st, (L.1, (r, k.toNat, x) :: L.2), n) else none
    | 10, [ci, k], .ref b :: .ref r :: st => if r < n ∧ fl_lay r = (ci.toNat, (fl_N[ci.toNat]?).getD 0) ∧ fl_kind ci.toNat k.toNat = 2 then some (nx, ls, st, ((r, k.toNat, b) :: L.1, L.2), n) else none
    | 12, _, .int x :: .int i :: .ref r :: st => if r < n ∧ (fl_lay r).1 = 20 ∧ fl_in i (fl_lay r).2 = true then some (nx, ls, st, (L.1, (r, i.toNatClampNeg, x) :: L.2), n) else none
    | 15, _, .int i :: .ref r :: st => if r < n ∧ 30 ≤ (fl_lay r).1 ∧ (fl_lay r).1 < 41 ∧ fl_in i (fl_lay r).2 = true then (match lkR L.1 r i.toNatClampNeg with
      | some b => some (nx, ls, .ref b :: st, L, n)
      | none => none) else none
    | 16, _, .ref b :: .int i :: .ref r :: st => if r < n ∧ 30 ≤ (fl_lay r).1 ∧ (fl_lay r).1 < 41 ∧ fl_in i (fl_lay r).2 = true ∧ b < n ∧ (fl_lay b).1 + 30 = (fl_lay r).1 then some (nx, ls, st, ((r, i.toNatClampNeg, b) :: L.1, L.2), n) else none
    | 17, _, .ref r :: st => if r < n ∧ r < 1000 ∧ 20 ≤ (fl_lay r).1 ∧ (fl_lay r).1 < 41 then some (nx, ls, .int (Int32.ofNat (fl_lay r).2) :: st, L, n) else none
    | 29, [ci], st => if n < fl_tot ∧ fl_lay n = (ci.toNat, (fl_N[ci.toNat]?).getD 0) then some (nx, ls, .ref n :: st, L, n + 1) else none
    | 30, [k], .int x :: st => if n < fl_tot ∧ ¬ x < 0 ∧ fl_lay n = (k.toNat, x.toNatClampNeg) then some (nx, ls, .ref n :: st, L, n + 1) else none
    | 31, [ci], .int x :: st => if n < fl_tot ∧ ¬ x < 0 ∧ fl_lay n = (30 + ci.toNat, x.toNatClampNeg) then some (nx, ls, .ref n :: st, L, n + 1) else none
    | _, _, _ => none
def cm_step (q : Smi) (c : CC) : Option (CC ⊕ ((Nat × List Value × List Value × Nat) ⊕ Option Value)) :=
  if cm_pure q.1 = true then (match fl_step q (c.1, c.2.1, c.2.2.1, cm_h, c.2.2.2.2) with
    | some (.inl c') => some (.inl (c'.1, c'.2.1, c'.2.2.1, c.2.2.2.1, c'.2.2.2.2))
    | _ => none)
  else if cm_ctl q.1 = true then (match fl_step q (c.1, c.2.1, c.2.2.1, cm_h, c.2.2.2.2) with
    | some (.inr o) => some (.inr o)
    | _ => none)
  else (match cm_mem q c with
    | some c' => some (.inl c')
    | none => none)
def cm_run : Nat → Nat → Nat → Nat → CC → Option (Bool × Option Value × CC)
  | 0, _, _, _, _ => none
  | f + 1, d, m, stop, c => if c.1 = stop then some (false, none, c) else match fl_code m c.1 with
    | none => none
    | some q => match cm_step q c with
      | none => none
      | some (.inl c') => cm_run f d m stop c'
      | some (.inr (.inr v)) => some (true, v, c)
      | some (.inr (.inl (m2, as, rest, nx))) => match d with
        | 0 => none
        | d' + 1 => match sm_ms[m2]? with
          | none => none
          | some y => if (fl_args as).length ≤ y.2.2.1 then (match cm_run f d' m2 99999 (0, fl_enter y.2.2.1 as, [], c.2.2.2.1, c.2.2.2.2) with
            | some (true, v, c2) => cm_run f d m stop (nx, c.2.1, v.toList ++ rest, c2.2.2.2.1, c2.2.2.2.2)
            | _ => none) else none
theorem cm_pure_ok {q : Smi} {pc : Nat} {ls : List (Option Value)} {st : List Value} {h g : Hp} {n : Nat} {c' : Cfg} (hp : cm_pure q.1 = true) (hs : fl_step q (pc, ls, st, h, n) = some (.inl c')) : c'.2.2.2.2 = n ∧ fl_step q (pc, ls, st, g, n) = some (.inl (c'.1, c'.2.1, c'.2.2.1, g, n)) := by
  obtain ⟨op, a, nx⟩ := q
  unfold cm_pure at hp
  simp only [Bool.or_eq_true, beq_iff_eq] at hp
  rcases hp with (((((((hp | hp) | hp) | hp) | hp) | hp) | hp) | hp) | hp <;> subst hp
  · match a, hs with
    | [v], hs => cases hs; exact ⟨rfl, rfl⟩
  · match a, hs with
    | [i, t], hs =>
      simp only [fl_step] at hs ⊢
      split at hs
      · split at hs
        · rename_i e1 e2
          cases hs
          exact ⟨rfl, by rw [if_pos e2]⟩
        · cases hs
      · cases hs
  · match a, st, hs with
    | [i, t], v :: st, hs =>
      simp only [fl_step] at hs ⊢
      split at hs
      · rename_i e1
        split at hs
        · rename_i e2
          cases hs
          exact ⟨rfl, by rw [if_pos e1]⟩
        · cases hs
      · cases hs
  · match a, hs with
    | [i, d], hs =>
      simp only [fl_step] at hs ⊢
      split at hs
      · rename_i x e1
        split at hs
        · rename_i e2
          cases hs
          exact ⟨rfl, rfl⟩
        · cases hs
      · cases hs
  · match a, st, hs with
    | [o, t], .int y :: .int x :: st, hs =>
      simp only [fl_step] at hs ⊢
      split at hs
      · rename_i b e1
        cases hs
        exact ⟨rfl, rfl⟩
      · cases hs
  · match a, hs with
    | [t], hs => cases hs; exact ⟨rfl, rfl⟩
  · match st, hs with
    | v :: st, hs =>
      simp only [fl_step] at hs ⊢
      split at hs
      · rename_i e1
        cases hs
        exact ⟨rfl, by rw [if_pos e1]⟩
      · cases hs
  · match a, hs with
    | [j], hs => cases hs; exact ⟨rfl, rfl⟩
  · match st, hs with
    | .ref b :: st, hs =>
      simp only [fl_step] at hs ⊢
      split at hs
      · rename_i e1
        cases hs
        exact ⟨rfl, by rw [if_pos e1]⟩
      · cases hs
theorem cm_ctl_ok {q : Smi} {pc : Nat} {ls : List (Option Value)} {st : List Value} {h g : Hp} {n : Nat} {o : (Nat × List Value × List Value × Nat) ⊕ Option Value} (hp : cm_ctl q.1 = true) (hs : fl_step q (pc, ls, st, h, n) = some (.inr o)) : fl_step q (pc, ls, st, g, n) = some (.inr o) := by
  obtain ⟨op, a, nx⟩ := q
  unfold cm_ctl at hp
  simp only [Bool.or_eq_true, beq_iff_eq] at hp
  rcases hp with ((hp | hp) | hp) | hp <;> subst hp
  · match a, hs with
    | [m, k], hs =>
      simp only [fl_step, fl_call] at hs ⊢
      exact hs
  · match a, hs with
    | [m, k], hs =>
      simp only [fl_step, fl_call] at hs ⊢
      exact hs
  · match a, hs with
    | [m, k], hs =>
      simp only [fl_step, fl_call] at hs ⊢
      exact hs
  · match st, hs with
    | [], hs => exact hs
theorem cmG.set {g : Hp} {L L' : CL} {n : Nat} (G : cmG g L n) {r : Nat} (hr : r < n) (h : (∃ j v, L' = ((r, j, v) :: L.1, L.2)) ∨ (∃ j v, L' = (L.1, (r, j, v) :: L.2))) : cmG g L' n := by
  intro a b h1 h2
  have := G a b h1 h2
  rcases h with ⟨j, v, rfl⟩ | ⟨j, v, rfl⟩
  · refine ⟨this.1, ?_⟩
    show (if a = r ∧ b = j then some v else hpR g.2 L.1 a b) = none
    rw [if_neg (by omega)]
    exact this.2
  · refine ⟨?_, this.2⟩
    show (if a = r ∧ b = j then v else hpI g.1 L.2 a b) = 0
    rw [if_neg (by omega)]
    exact this.1
theorem cmG.zero {g : Hp} {L : CL} {n : Nat} (G : cmG g L n) (hn : n < 1000) : fl_zero (hpL g L) n = hpL g L := by
  unfold fl_zero
  have e1 : (fun a b => if a = n then 0 else (hpL g L).1 a b) = (hpL g L).1 := by
    funext a b
    split
    · rename_i z; subst z; exact ((G a b (Nat.le_refl _) hn).1).symm
    · rfl
  have e2 : (fun a b => if a = n then none else (hpL g L).2 a b) = (hpL g L).2 := by
    funext a b
    split
    · rename_i z; subst z; exact ((G a b (Nat.le_refl _) hn).2).symm
    · rfl
  rw [e1, e2]
theorem cm_mem_ok {g : Hp} {q : Smi} {pc : Nat} {ls : List (Option Value)} {st : List Value} {L : CL} {n : Nat} {c' : CC} (G : cmG g L n) (hs : cm_mem q (pc, ls, st, L, n) = some c') : fl_step q (pc, ls, st, hpL g L, n) = some (.inl (c'.1, c'.2.1, c'.2.2.1, hpL g c'.2.2.2.1, c'.2.2.2.2)) ∧ cmG g c'.2.2.2.1 c'.2.2.2.2 := by
  obtain ⟨op, a, nx⟩ := q
  unfold cm_mem at hs
  simp only at hs
  split at hs
  · split at hs
    · rename_i hc
      split at hs
      · rename_i b hb
        cases hs
        refine ⟨?_, G⟩
        simp only [fl_step]
        rw [if_pos ⟨hc.1, hc.2.1⟩, hc.2.2]
        simp only [hpL, lkR_ok hb, fl_rv]
      · cases hs
    · cases hs
  · split at hs
    · rename_i hc
      cases hs
      refine ⟨?_, G.set hc.1 (Or.inr ⟨_, _, rfl⟩)⟩
      simp only [fl_step]
      rw [if_pos ⟨hc.1, hc.2.1⟩, hc.2.2]
      rfl
    · cases hs
  · split at hs
    · rename_i hc
      cases hs
      refine ⟨?_, G.set hc.1 (Or.inl ⟨_, _, rfl⟩)⟩
      simp only [fl_step]
      rw [if_pos ⟨hc.1, hc.2.1⟩, hc.2.2]
      rfl
    · cases hs
  · split at hs
    · rename_i hc
      cases hs
      refine ⟨?_, G.set hc.1 (Or.inr ⟨_, _, rfl⟩)⟩
      simp only [fl_step]
      rw [if_pos hc]
      rfl
    · cases hs
  · split at hs
    · rename_i hc
      split at hs
      · rename_i b hb
        cases hs
        refine ⟨?_, G⟩
        simp only [fl_step]
        rw [if_pos hc]
        simp only [hpL, lkR_ok hb, fl_rv]
      · cases hs
    · cases hs
  · split at hs
    · rename_i hc
      cases hs
      refine ⟨?_, G.set hc.1 (Or.inl ⟨_, _, rfl⟩)⟩
      simp only [fl_step]
      rw [if_pos hc]
      rfl
    · cases hs
  · split at hs
    · rename_i hc
      cases hs
      refine ⟨?_, G⟩
      simp only [fl_step]
      rw [if_pos (Or.inl ⟨hc.1, hc.2.2.1, hc.2.2.2⟩)]
      unfold fl_len
      rw [if_pos hc.2.1]
    · cases hs
  · split at hs
    · rename_i hc
      cases hs
      refine ⟨?_, fun r j h1 h2 => G r j (by simp only at h1; omega) h2⟩
      simp only [fl_step]
      rw [if_pos hc, G.zero (by have h9 : n < 285 := hc.1; omega)]
    · cases hs
  · split at hs
    · rename_i hc
      cases hs
      refine ⟨?_, fun r j h1 h2 => G r j (by simp only at h1; omega) h2⟩
      simp only [fl_step]
      rw [if_pos hc, G.zero (by have h9 : n < 285 := hc.1; omega)]
    · cases hs
  · split at hs
    · rename_i hc
      cases hs
      refine ⟨?_, fun r j h1 h2 => G r j (by simp only at h1; omega) h2⟩
      simp only [fl_step]
      rw [if_pos hc, G.zero (by have h9 : n < 285 := hc.1; omega)]
    · cases hs
  · cases hs
def rl (g : Hp) (c : CC) : Cfg := (c.1, c.2.1, c.2.2.1, hpL g c.2.2.2.1, c.2.2.2.2)
theorem cm_ok {g : Hp} : ∀ (f d m stop : Nat) (c : CC) (b : Bool) (v : Option Value) (c' : CC), cm_run f d m stop c = some (b, v, c') → cmG g c.2.2.2.1 c.2.2.2.2 → cmG g c'.2.2.2.1 c'.2.2.2.2 ∧ (b = true → Ev d m (rl g c) (v, hpL g c'.2.2.2.1, c'.2.2.2.2)) ∧ (b = false → c'.1 = stop ∧ ∀ d2 r, d ≤ d2 → Ev d2 m (rl g c') r → Ev d2 m (rl g c) r) := by
  intro f
  induction f with
  | zero => intro d m stop c b v c' h; cases h
  | succ f ih =>
    intro d m stop c b v c' h G
    unfold cm_run at h
    split at h
    · rename_i hstop
      cases h
      exact ⟨G, fun z => (by cases z), fun _ => ⟨hstop, fun d2 r _ e => e⟩⟩
    · split at h
      · cases h
      · rename_i q hq
        split at h
        · cases h
        · rename_i c1 hs
          have hc : fl_step q (rl g c) = some (.inl (rl g c1)) ∧ cmG g c1.2.2.2.1 c1.2.2.2.2 := by
            unfold cm_step at hs
            split at hs
            · rename_i hp
              split at hs
              · rename_i x hx
                cases hs
                have := cm_pure_ok (g := hpL g c.2.2.2.1) hp hx
                refine ⟨?_, by simp only [this.1]; exact G⟩
                show fl_step q (c.1, c.2.1, c.2.2.1, hpL g c.2.2.2.1, c.2.2.2.2) = _
                rw [this.2]
                unfold rl
                simp only [this.1]
              · cases hs
            · split at hs
              · split at hs <;> cases hs
              · split at hs
                · rename_i x hx
                  cases hs
                  exact cm_mem_ok G hx
                · cases hs
          obtain ⟨r1, r2, r3⟩ := ih d m stop c1 b v c' h hc.2
          exact ⟨r1, fun z => Ev.step hq hc.1 (r2 z), fun z => ⟨(r3 z).1, fun d2 r hd e => Ev.step hq hc.1 ((r3 z).2 d2 r hd e)⟩⟩
        · rename_i w hs
          have hh := Option.some.inj h
          have k1 : true = b := congrArg (fun z => z.1) hh
          have k2 : w = v := congrArg (fun z => z.2.1) hh
          have k3 : c = c' := congrArg (fun z => z.2.2) hh
          rw [← k1, ← k2, ← k3]
          have hc : fl_step q (rl g c) = some (.inr (.inr w)) := by
            unfold cm_step at hs
            split at hs
            · split at hs <;> cases hs
            · split at hs
              · rename_i hp
                split at hs
                · rename_i x hx
                  cases hs
                  exact cm_ctl_ok hp hx
                · cases hs
              · split at hs <;> cases hs
          exact ⟨G, fun _ => Ev.ret hq hc, fun z => by cases z⟩
        · rename_i m2 as rest nx hs
          have hc : fl_step q (rl g c) = some (.inr (.inl (m2, as, rest, nx))) := by
            unfold cm_step at hs
            split at hs
            · split at hs <;> cases hs
            · split at hs
              · rename_i hp
                split at hs
                · rename_i x hx
                  cases hs
                  exact cm_ctl_ok hp hx
                · cases hs
              · split at hs <;> cases hs
          split at h
          · cases h
          · rename_i d'
            split at h
            · cases h
            · rename_i y hy
              split at h
              · rename_i hl
                split at h
                · rename_i w c2 hr
                  obtain ⟨s1, s2, -⟩ := ih d' m2 99999 _ true w c2 hr G
                  obtain ⟨r1, r2, r3⟩ := ih (d' + 1) m stop _ b v c' h s1
                  refine ⟨r1, fun z => Ev.call hq hc hy hl (s2 rfl) (r2 z), fun z => ⟨(r3 z).1, fun d2 r hd e => ?_⟩⟩
                  obtain ⟨d3, rfl⟩ : ∃ d3, d2 = d3 + 1 := ⟨d2 - 1, by omega⟩
                  exact Ev.call hq hc hy hl ((s2 rfl).mono (by omega)) ((r3 z).2 (d3 + 1) r hd e)
                · cases h
              · cases h
/-- the types of what was written -/
def cmZ (t : TY) : Bool := decide (t.2.1 ≤ 0) && decide (0 ≤ t.2.2)
def cmS (l : List (Nat × Nat × Nat)) (r j : Nat) (t : TY) : Bool := match t.1 with
  | 1 => cmZ t
  | 2 => (match lkR l r j with
    | some b => decide (ab_kd b = t.2.1.toNat)
    | none => false)
  | 4 => (match lkR l r j with
    | some b => decide (ab_kd b = t.2.1.toNat)
    | none => true)
  | _ => true
def cmR (l : List (Nat × Nat × Nat)) (r : Nat) : Bool := match ab_K[ab_kd r]? with
  | some (code, size, tys) => if code < 20 then (List.range size).all (fun j => match tys[j]? with
      | some t => cmS l r j t
      | none => true) else (match tys[0]? with
      | some t => if t.1 = 1 then cmZ t else (List.range size).all (fun j => cmS l r j t)
      | none => true)
  | none => true
def cmE (e : Nat × Nat × Int32) : Bool := decide (ab_kd e.1 < 31) && (match ab_K[ab_kd e.1]? with
  | some (code, _, tys) => (match (if code < 20 then tys[e.2.1]? else tys[0]?) with
    | some t => decide (t.2.1 ≤ e.2.2.toInt) && decide (e.2.2.toInt ≤ t.2.2)
    | none => true)
  | none => true)
def cmT (L : CL) : Bool := (List.range 285).all (cmR L.1) && L.2.all cmE
theorem cmT_ok {g : Hp} {L : CL} (h0 : ∀ r j, r < 1000 → g.1 r j = 0 ∧ g.2 r j = none) (hc : cmT L = true) : TInv (hpL g L) := by
  unfold cmT at hc
  rw [Bool.and_eq_true] at hc
  intro r code size tys j t h1 h2 h3 h4
  have hr := (ab_kdK h1 h2).1
  have hr' : r < 285 := hr
  have hR := List.all_eq_true.mp hc.1 r (List.mem_range.mpr hr')
  unfold cmR at hR
  rw [h2] at hR
  simp only at hR
  have hS : cmS L.1 r j t = true := by
    by_cases hcd : code < 20
    · rw [if_pos hcd] at hR h4
      have := List.all_eq_true.mp hR j (List.mem_range.mpr h3)
      rw [h4] at this
      exact this
    · rw [if_neg hcd] at hR h4
      rw [h4] at hR
      simp only at hR
      split at hR
      · rename_i e
        unfold cmS
        rw [e]
        exact hR
      · exact List.all_eq_true.mp hR j (List.mem_range.mpr h3)
  unfold cmS at hS
  unfold slotOK
  have z := h0 r j (by omega)
  split at hS
  · rename_i e
    rw [e]
    show t.2.1 ≤ (hpI g.1 L.2 r j).toInt ∧ (hpI g.1 L.2 r j).toInt ≤ t.2.2
    rcases hpI_or (b := g.1) (r := r) (j := j) (l := L.2) with h | ⟨x, x1, x2, x3, x4⟩
    · rw [h, z.1]
      unfold cmZ at hS
      simp only [Bool.and_eq_true, decide_eq_true_eq] at hS
      exact hS
    · rw [x4]
      have hE := List.all_eq_true.mp hc.2 x x1
      unfold cmE at hE
      rw [Bool.and_eq_true, x2, x3, h2] at hE
      have := hE.2
      simp only at this
      rw [h4] at this
      simp only [Bool.and_eq_true, decide_eq_true_eq] at this
      exact this
  · rename_i e
    rw [e]
    split at hS
    · rename_i b hb
      exact ⟨b, lkR_ok hb, of_decide_eq_true hS⟩
    · cases hS
  · rename_i e
    rw [e]
    split at hS
    · rename_i b hb
      exact Or.inr ⟨b, lkR_ok hb, of_decide_eq_true hS⟩
    · rename_i hb
      refine Or.inl ?_
      show hpR g.2 L.1 r j = none
      rw [lkR_no hb]
      exact z.2
  · rename_i e1 e2 e3
    split
    · rename_i z; exact absurd z e1
    · rename_i z; exact absurd z e2
    · rename_i z; exact absurd z e3
    · trivial
def ct_a : Option (Bool × Option Value × CC) := cm_run 20000 10 214 12 (0, fl_enter 4 [.ref 1010], [], ([], []), 0)
def ct_b (L : CL) (n : Nat) : Option (Bool × Option Value × CC) := cm_run 20000 10 141 497 (0, fl_enter 2 [rv 31], [], L, n)
def ct_ckb (c : CC) : Bool := decide (c.2.2.2.2 = 285) && cmT c.2.2.2.1 && (match c.2.1 with
  | [some (.ref a), some (.int z)] => decide (a = xc 31) && decide (z = 0)
  | _ => false) && c.2.2.1.isEmpty
def ct_ck : Bool := match ct_a with
  | some (false, _, c) => (match c.2.1, c.2.2.1 with
    | [some (.ref a), some (.ref b), none, none], [.ref x, .ref y] => decide (a = 1010) && decide (b = 0) && decide (x = xc 31) && decide (y = xc 31)
    | _, _ => false) && (match ct_b c.2.2.2.1 c.2.2.2.2 with
    | some (false, _, c2) => ct_ckb c2
    | _ => false)
  | _ => false
theorem ct_ok : ct_ck = true := by decide +kernel
