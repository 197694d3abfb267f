/-! RUNS OF THE FLAT MACHINE: more steps and more depth do no harm; steps, calls, ends -/
theorem fl_run_more : ∀ (f d m : Nat) (c : Cfg) (r : Option Value × Hp × Nat), fl_run f d m c = some r → ∀ (f' d' : Nat), f ≤ f' → d ≤ d' → fl_run f' d' m c = some r := by
  intro f
  induction f with
  | zero => intro d m c r h; cases h
  | succ f ih =>
    intro d m c r h f' d' hf hd
    obtain ⟨f1, rfl⟩ : ∃ f1, f' = f1 + 1 := ⟨f' - 1, by omega⟩
    have hf1 : f ≤ f1 := by omega
    unfold fl_run at h ⊢
    cases hc : fl_code m c.1 with
    | none => rw [hc] at h; cases h
    | some q =>
      rw [hc] at h
      simp only at h ⊢
      cases hs : fl_step q c with
      | none => rw [hs] at h; cases h
      | some o =>
        rw [hs] at h
        rcases o with c' | ⟨m2, as, rest, nx⟩ | v
        · simp only at h ⊢
          exact ih _ _ _ _ h _ _ hf1 hd
        · simp only at h ⊢
          cases d with
          | zero => cases h
          | succ d =>
            obtain ⟨d1, rfl⟩ : ∃ d1, d' = d1 + 1 := ⟨d' - 1, by omega⟩
            simp only at h ⊢
            cases hy : sm_ms[m2]? with
            | none => rw [hy] at h; cases h
            | some y =>
              rw [hy] at h
              simp only at h ⊢
              by_cases hl : (fl_args as).length ≤ y.2.2.1
              · rw [if_pos hl] at h ⊢
                cases hr : fl_run f d m2 (0, fl_enter y.2.2.1 as, [], c.2.2.2.1, c.2.2.2.2) with
                | none => rw [hr] at h; cases h
                | some w =>
                  rw [hr] at h
                  rw [ih _ _ _ _ hr f1 d1 hf1 (by omega)]
                  obtain ⟨v2, h2, n2⟩ := w
                  simp only at h ⊢
                  exact ih _ _ _ _ h _ _ hf1 hd
              · rw [if_neg hl] at h; cases h
        · exact h
/-- from c the method m comes to the end r, at most d calls within one another -/
def Ev (d m : Nat) (c : Cfg) (r : Option Value × Hp × Nat) : Prop := ∃ f, fl_run f d m c = some r
theorem Ev.mono {d d' m : Nat} {c : Cfg} {r : Option Value × Hp × Nat} (h : Ev d m c r) (hd : d ≤ d') : Ev d' m c r := by
  obtain ⟨f, hf⟩ := h
  exact ⟨f, fl_run_more _ _ _ _ _ hf _ _ (Nat.le_refl _) hd⟩
theorem Ev.step {d m : Nat} {c c' : Cfg} {q : Smi} {r : Option Value × Hp × Nat} (hc : fl_code m c.1 = some q) (hs : fl_step q c = some (.inl c')) (h : Ev d m c' r) : Ev d m c r := by
  obtain ⟨f, hf⟩ := h
  refine ⟨f + 1, ?_⟩
  unfold fl_run
  rw [hc]
  simp only [hs]
  exact hf
theorem Ev.ret {d m : Nat} {c : Cfg} {q : Smi} {v : Option Value} (hc : fl_code m c.1 = some q) (hs : fl_step q c = some (.inr (.inr v))) : Ev d m c (v, c.2.2.2.1, c.2.2.2.2) := by
  refine ⟨1, ?_⟩
  unfold fl_run
  rw [hc]
  simp only [hs]
theorem Ev.call {d m m2 nx : Nat} {c : Cfg} {q : Smi} {as rest : List Value} {y : sm_M} {v : Option Value} {h : Hp} {n : Nat} {r : Option Value × Hp × Nat} (hc : fl_code m c.1 = some q) (hs : fl_step q c = some (.inr (.inl (m2, as, rest, nx)))) (hy : sm_ms[m2]? = some y) (hl : (fl_args as).length ≤ y.2.2.1)
    (h1 : Ev d m2 (0, fl_enter y.2.2.1 as, [], c.2.2.2.1, c.2.2.2.2) (v, h, n)) (h2 : Ev (d + 1) m (nx, c.2.1, v.toList ++ rest, h, n) r) : Ev (d + 1) m c r := by
  obtain ⟨f1, hf1⟩ := h1
  obtain ⟨f2, hf2⟩ := h2
  refine ⟨f1 + f2 + 1, ?_⟩
  unfold fl_run
  rw [hc]
  simp only [hs, hy, if_pos hl]
  rw [fl_run_more _ _ _ _ _ hf1 (f1 + f2) d (by omega) (Nat.le_refl _)]
  simp only
  exact fl_run_more _ _ _ _ _ hf2 (f1 + f2) (d + 1) (by omega) (Nat.le_refl _)
