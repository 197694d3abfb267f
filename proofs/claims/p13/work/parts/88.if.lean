
set_option maxRecDepth 20000
/-! FINAL REFERENCES ARE NEVER WRITTEN -/
def frL : List (Nat × Nat) := [(9, 0), (9, 1), (9, 2), (9, 3), (9, 4), (4, 0), (4, 1), (6, 0), (6, 1), (6, 2), (6, 3), (2, 0), (2, 1), (2, 2), (2, 3), (2, 4), (2, 5), (1, 0), (5, 0), (5, 1), (5, 2), (5, 3), (5, 4), (5, 5), (8, 0), (8, 1), (8, 2), (8, 3), (8, 4), (8, 5), (7, 2), (3, 1), (3, 2)]
theorem frL20 : (frL.all fun p => decide (p.1 < 20)) = true := by decide
def srOp (S : List Nat) (q : Smi) : Bool := match q.1, q.2.1 with
  | 10, [a, b] => !(frL.contains (a.toNat, b.toNat))
  | 18, [m, _] => S.contains m.toNat
  | 19, [m, _] => S.contains m.toNat
  | 20, [m, _] => S.contains m.toNat
  | _, _ => true
def srChk (S : List Nat) : Bool := S.all fun m => match sm_cs[m]? with
  | some l => l.all (fun e => srOp S e.2)
  | none => true
theorem sr_code {S : List Nat} (hS : srChk S = true) {m pc : Nat} {q : Smi} (hm : m ∈ S) (hc : fl_code m pc = some q) : srOp S q = true := by
  have h := List.all_eq_true.mp hS m hm
  unfold fl_code at hc
  split at hc
  · rename_i l hl
    rw [hl] at h
    have hq : ∃ p, (p, q) ∈ l := by
      clear h hl
      induction l with
      | nil => cases hc
      | cons e l ih =>
        rw [List.lookup_cons] at hc
        split at hc
        · cases hc
          exact ⟨e.1, List.mem_cons_self⟩
        · obtain ⟨p, hp⟩ := ih hc
          exact ⟨p, List.mem_cons_of_mem _ hp⟩
    obtain ⟨p, hp⟩ := hq
    exact List.all_eq_true.mp h _ hp
  · cases hc
theorem wR {h : Hp} {r j : Nat} {x : Option Nat} (hr : ((fl_lay r).1, j) ∉ frL) : ∀ r' k, ((fl_lay r').1, k) ∈ frL → (fl_setR h r j x).2 r' k = h.2 r' k := fun r' k hr' => by
  show (if r' = r ∧ k = j then x else h.2 r' k) = _
  rw [if_neg]
  rintro ⟨rfl, rfl⟩
  exact hr hr'
theorem fr20 {r k : Nat} (h : ((fl_lay r).1, k) ∈ frL) : (fl_lay r).1 < 20 := by
  have := List.all_eq_true.mp frL20 _ h
  exact of_decide_eq_true this
theorem sr_step {S : List Nat} {q : Smi} {c c' : Cfg} (hq : srOp S q = true) (hn : c.2.2.2.2 = fl_tot) (hs : fl_step q c = some (.inl c')) : c'.2.2.2.2 = fl_tot ∧ ∀ r k, ((fl_lay r).1, k) ∈ frL → c'.2.2.2.1.2 r k = c.2.2.2.1.2 r k := by
  obtain ⟨op, a, nx⟩ := q
  obtain ⟨pc, ls, st, h, n⟩ := c
  simp only at hn
  subst hn
  by_cases h10 : op = 10
  · subst h10
    match a, st, hq, hs with
    | [x, y], v :: .ref r :: st, hq, hs =>
      have hq' : (!(frL.contains (x.toNat, y.toNat))) = true := hq
      simp only [fl_step] at hs
      split at hs
      · rename_i hc
        have hl : (fl_lay r).1 = x.toNat := by rw [hc.2]
        have hw : ((fl_lay r).1, y.toNat) ∉ frL := fun z => by
          rw [hl] at z
          rw [List.contains_iff_mem.mpr z] at hq'
          cases hq'
        split at hs
        · cases hs; exact ⟨rfl, fun r k _ => rfl⟩
        · split at hs
          · cases hs; exact ⟨rfl, fun r k _ => rfl⟩
          · cases hs
        · cases hs; exact ⟨rfl, wR hw⟩
        · cases hs; exact ⟨rfl, wR hw⟩
        · cases hs
      · cases hs
  by_cases h12 : op = 12
  · subst h12
    match st, hs with
    | .int x :: .int i :: .ref r :: st, hs =>
      simp only [fl_step] at hs
      split at hs
      · rename_i hc
        cases hs
        exact ⟨rfl, fun r k _ => rfl⟩
      · cases hs
  by_cases h14 : op = 14
  · subst h14
    match st, hs with
    | .int x :: .int i :: .ref r :: st, hs =>
      simp only [fl_step] at hs
      split at hs
      · rename_i hc
        cases hs
        exact ⟨rfl, fun r k _ => rfl⟩
      · cases hs
  by_cases h16 : op = 16
  · subst h16
    match st, hs with
    | .ref b :: .int i :: .ref r :: st, hs =>
      simp only [fl_step] at hs
      split at hs
      · rename_i hc
        cases hs
        exact ⟨rfl, wR fun z => by have := fr20 z; omega⟩
      · cases hs
  by_cases h29 : op = 29
  · subst h29
    match a, hs with
    | [x], hs =>
      simp only [fl_step] at hs
      split at hs
      · rename_i hc
        exact absurd hc.1 (Nat.lt_irrefl _)
      · cases hs
  by_cases h30 : op = 30
  · subst h30
    match a, st, hs with
    | [x], .int y :: st, hs =>
      simp only [fl_step] at hs
      split at hs
      · rename_i hc
        exact absurd hc.1 (Nat.lt_irrefl _)
      · cases hs
  by_cases h31 : op = 31
  · subst h31
    match a, st, hs with
    | [x], .int y :: st, hs =>
      simp only [fl_step] at hs
      split at hs
      · rename_i hc
        exact absurd hc.1 (Nat.lt_irrefl _)
      · cases hs
  by_cases h41 : op = 41
  · subst h41
    match st, hs with
    | .int x :: .int dp :: .ref b :: .int sp :: .ref r :: st, hs =>
      simp only [fl_step] at hs
      split at hs
      · rename_i hc
        cases hs
        exact ⟨rfl, fun r k _ => rfl⟩
      · cases hs
  clear hq
  unfold fl_step at hs
  simp only at hs
  split at hs
  all_goals first
    | (exfalso; first | exact h10 rfl | exact h12 rfl | exact h14 rfl | exact h16 rfl | exact h29 rfl | exact h30 rfl | exact h31 rfl | exact h41 rfl)
    | (obtain ⟨as, rest, e⟩ := call_m hs; cases e; done)
    | ((repeat' split at hs) <;> first
      | (cases hs; done)
      | (obtain ⟨as, rest, e⟩ := call_m hs; cases e; done)
      | (cases hs; exact ⟨rfl, fun r k _ => rfl⟩))
theorem sr_call {S : List Nat} {q : Smi} {c : Cfg} {m2 nx : Nat} {as rest : List Value} (hq : srOp S q = true) (hs : fl_step q c = some (.inr (.inl (m2, as, rest, nx)))) : m2 ∈ S := by
  obtain ⟨op, a, nx1⟩ := q
  obtain ⟨pc, ls, st, h, n⟩ := c
  have go : ∀ {virt : Bool} {inst m k' : Nat}, S.contains m = true → fl_call virt inst m k' nx1 ls st h n = some (.inr (.inl (m2, as, rest, nx))) → m2 ∈ S := fun hm e => by
    obtain ⟨as', rest', e'⟩ := call_m e
    cases e'
    exact List.contains_iff_mem.mp hm
  by_cases h18 : op = 18
  · subst h18
    match a, hq, hs with
    | [m, k'], hq, hs => exact go hq hs
  by_cases h19 : op = 19
  · subst h19
    match a, hq, hs with
    | [m, k'], hq, hs => exact go hq hs
  by_cases h20 : op = 20
  · subst h20
    match a, hq, hs with
    | [m, k'], hq, hs => exact go hq hs
  exfalso
  clear hq
  unfold fl_step at hs
  simp only at hs
  split at hs
  all_goals first
    | (exact h18 rfl)
    | (exact h19 rfl)
    | (exact h20 rfl)
    | ((repeat' split at hs) <;> (cases hs; done))
theorem sr_run {S : List Nat} (hS : srChk S = true) : ∀ (f d m : Nat) (c : Cfg) (v : Option Value) (h : Hp) (n : Nat), m ∈ S → c.2.2.2.2 = fl_tot → fl_run f d m c = some (v, h, n) → n = fl_tot ∧ ∀ r k, ((fl_lay r).1, k) ∈ frL → h.2 r k = c.2.2.2.1.2 r k := by
  intro f
  induction f with
  | zero => intro d m c v h n hm hn e; cases e
  | succ f ih =>
    intro d m c v h n hm hn e
    unfold fl_run at e
    split at e
    · cases e
    · rename_i q hq
      have hop := sr_code hS hm hq
      split at e
      · cases e
      · rename_i c1 hs
        obtain ⟨s1, s2⟩ := sr_step hop hn hs
        obtain ⟨r1, r2⟩ := ih _ _ _ _ _ _ hm s1 e
        exact ⟨r1, fun r k hr => (r2 r k hr).trans (s2 r k hr)⟩
      · cases e
        exact ⟨hn, fun r k _ => rfl⟩
      · rename_i m2 as rest nx hs
        have hm2 := sr_call hop hs
        split at e
        · cases e
        · split at e
          · cases e
          · split at e
            · split at e
              · cases e
              · rename_i v2 h2 n2 hr
                obtain ⟨a1, a2⟩ := ih _ _ _ _ _ _ hm2 (by exact hn) hr
                obtain ⟨r1, r2⟩ := ih _ _ _ _ _ _ hm (by exact a1) e
                exact ⟨r1, fun r k hr' => (r2 r k hr').trans (a2 r k hr')⟩
            · cases e
theorem sr_ev {S : List Nat} (hS : srChk S = true) {d m : Nat} {pc : Nat} {ls : List (Option Value)} {st : List Value} {h h' : Hp} {v : Option Value} {n : Nat} (hm : S.contains m = true) (e : Ev d m (pc, ls, st, h, fl_tot) (v, h', n)) : n = fl_tot ∧ ∀ r k, ((fl_lay r).1, k) ∈ frL → h'.2 r k = h.2 r k := by
  obtain ⟨f, hf⟩ := e
  exact sr_run hS f d m _ v h' n (List.contains_iff_mem.mp hm) rfl hf
