/-! runs of the machine that reads only what counts -/
theorem runV_more : ∀ (f d m : Nat) (c : Cfg) (V : VS) (r : Option Value × Hp × Nat × VS), fl_runV f d m c V = some r → ∀ (f' d' : Nat), f ≤ f' → d ≤ d' → fl_runV f' d' m c V = some r := by
  intro f
  induction f with
  | zero => intro d m c V r h; cases h
  | succ f ih =>
    intro d m c V r h f' d' hf hd
    obtain ⟨f1, rfl⟩ : ∃ f1, f' = f1 + 1 := ⟨f' - 1, by omega⟩
    have hf1 : f ≤ f1 := by omega
    unfold fl_runV at h ⊢
    cases hc : fl_code m c.1 with
    | none => rw [hc] at h; cases h
    | some q =>
      rw [hc] at h
      simp only at h ⊢
      by_cases hv : vOK q c.2.2.1 V = true
      · rw [if_pos hv] at h ⊢
        cases hs : fl_step q c with
        | none => rw [hs] at h; cases h
        | some o =>
          rw [hs] at h
          rcases o with c' | ⟨m2, as, rest, nx⟩ | v
          · simp only at h ⊢
            exact ih _ _ _ _ _ h _ _ hf1 hd
          · simp only at h ⊢
            cases d with
            | zero => cases h
            | succ d =>
              obtain ⟨d1, rfl⟩ : ∃ d1, d' = d1 + 1 := ⟨d' - 1, by omega⟩
              simp only at h ⊢
              cases hy : sm_ms[m2]? with
              | none => rw [hy] at h; cases h
              | some y =>
                rw [hy] at h
                simp only at h ⊢
                by_cases hl : (fl_args as).length ≤ y.2.2.1
                · rw [if_pos hl] at h ⊢
                  cases hr : fl_runV f d m2 (0, fl_enter y.2.2.1 as, [], c.2.2.2.1, c.2.2.2.2) V with
                  | none => rw [hr] at h; cases h
                  | some w =>
                    rw [hr] at h
                    rw [ih _ _ _ _ _ hr f1 d1 hf1 (by omega)]
                    obtain ⟨v2, h2, n2, V2⟩ := w
                    simp only at h ⊢
                    exact ih _ _ _ _ _ h _ _ hf1 hd
                · rw [if_neg hl] at h; cases h
          · exact h
      · rw [if_neg hv] at h; cases h
def EvV (d m : Nat) (c : Cfg) (V : VS) (r : Option Value × Hp × Nat × VS) : Prop := ∃ f, fl_runV f d m c V = some r
theorem EvV.mono {d d' m : Nat} {c : Cfg} {V : VS} {r : Option Value × Hp × Nat × VS} (h : EvV d m c V r) (hd : d ≤ d') : EvV d' m c V r := by
  obtain ⟨f, hf⟩ := h
  exact ⟨f, runV_more _ _ _ _ _ _ hf _ _ (Nat.le_refl _) hd⟩
theorem EvV.step {d m : Nat} {c c' : Cfg} {V : VS} {q : Smi} {r : Option Value × Hp × Nat × VS} (hc : fl_code m c.1 = some q) (hv : vOK q c.2.2.1 V = true) (hs : fl_step q c = some (.inl c')) (h : EvV d m c' (vW q c.2.2.1 V) r) : EvV d m c V r := by
  obtain ⟨f, hf⟩ := h
  refine ⟨f + 1, ?_⟩
  unfold fl_runV
  rw [hc]
  simp only [if_pos hv, hs]
  exact hf
theorem EvV.ret {d m : Nat} {c : Cfg} {V : VS} {q : Smi} {v : Option Value} (hc : fl_code m c.1 = some q) (hv : vOK q c.2.2.1 V = true) (hs : fl_step q c = some (.inr (.inr v))) : EvV d m c V (v, c.2.2.2.1, c.2.2.2.2, V) := by
  refine ⟨1, ?_⟩
  unfold fl_runV
  rw [hc]
  simp only [if_pos hv, hs]
theorem EvV.call {d m m2 nx : Nat} {c : Cfg} {V V2 : VS} {q : Smi} {as rest : List Value} {y : sm_M} {v : Option Value} {h : Hp} {n : Nat} {r : Option Value × Hp × Nat × VS} (hc : fl_code m c.1 = some q) (hv : vOK q c.2.2.1 V = true) (hs : fl_step q c = some (.inr (.inl (m2, as, rest, nx)))) (hy : sm_ms[m2]? = some y) (hl : (fl_args as).length ≤ y.2.2.1)
    (h1 : EvV d m2 (0, fl_enter y.2.2.1 as, [], c.2.2.2.1, c.2.2.2.2) V (v, h, n, V2)) (h2 : EvV (d + 1) m (nx, c.2.1, v.toList ++ rest, h, n) V2 r) : EvV (d + 1) m c V r := by
  obtain ⟨f1, hf1⟩ := h1
  obtain ⟨f2, hf2⟩ := h2
  refine ⟨f1 + f2 + 1, ?_⟩
  unfold fl_runV
  rw [hc]
  simp only [if_pos hv, hs, hy, if_pos hl]
  rw [runV_more _ _ _ _ _ _ hf1 (f1 + f2) d (by omega) (Nat.le_refl _)]
  simp only
  exact runV_more _ _ _ _ _ _ hf2 (f1 + f2) (d + 1) (by omega) (Nat.le_refl _)
theorem EvV.ev {d m : Nat} {c : Cfg} {V V' : VS} {v : Option Value} {h : Hp} {n : Nat} (e : EvV d m c V (v, h, n, V')) : Ev d m c (v, h, n) := by
  obtain ⟨f, hf⟩ := e
  exact ⟨f, runV_run _ _ _ _ _ _ _ _ _ hf⟩
theorem EvV.agree {d m pc : Nat} {ls : List (Option Value)} {st : List Value} {h g : Hp} {n : Nat} {V V' : VS} {v : Option Value} {h' : Hp} {n' : Nat} (e : EvV d m (pc, ls, st, h, n) V (v, h', n', V')) (ha : agree V h g) : ∃ g', EvV d m (pc, ls, st, g, n) V (v, g', n', V') ∧ agree V' h' g' := by
  obtain ⟨f, hf⟩ := e
  obtain ⟨g', z1, z2⟩ := runV_agree _ _ _ _ _ _ _ _ _ _ _ _ _ _ hf ha
  exact ⟨g', ⟨f, z1⟩, z2⟩
/-- the same start, the same end -/
theorem EvV.det {d d2 m : Nat} {c : Cfg} {V : VS} {r r2 : Option Value × Hp × Nat × VS} (h : EvV d m c V r) (h2 : EvV d2 m c V r2) : r = r2 := by
  obtain ⟨f, hf⟩ := h
  obtain ⟨f2, hf2⟩ := h2
  have a := runV_more _ _ _ _ _ _ hf (f + f2) (d + d2) (by omega) (by omega)
  have b := runV_more _ _ _ _ _ _ hf2 (f + f2) (d + d2) (by omega) (by omega)
  rw [a] at b
  exact Option.some.inj b
/-- a step that writes no slot leaves the heap -/
theorem step_heap {q : Smi} {pc : Nat} {ls : List (Option Value)} {st : List Value} {h : Hp} {n : Nat} {c' : Cfg} (hs : fl_step q (pc, ls, st, h, n) = some (.inl c')) (hq : q.1 ≠ 10 ∧ q.1 ≠ 12 ∧ q.1 ≠ 14 ∧ q.1 ≠ 16 ∧ q.1 ≠ 29 ∧ q.1 ≠ 30 ∧ q.1 ≠ 31 ∧ q.1 ≠ 41) : c'.2.2.2.1 = h := by
  obtain ⟨op, a, nx⟩ := q
  obtain ⟨q1, q2, q3, q4, q5, q6, q7, q8⟩ := hq
  simp only at q1 q2 q3 q4 q5 q6 q7 q8
  unfold fl_step at hs
  simp only at hs
  have hcall : ∀ (b : Bool) (i m k : Nat), fl_call b i m k nx ls st h n = some (.inl c') → c'.2.2.2.1 = h := fun b i m k hk => by
    obtain ⟨x, hx⟩ := call_inr hk
    cases hx
  split at hs <;> first | (exact absurd rfl q1) | (exact absurd rfl q2) | (exact absurd rfl q3) | (exact absurd rfl q4) | (exact absurd rfl q5) | (exact absurd rfl q6) | (exact absurd rfl q7) | (exact absurd rfl q8) | (split at hs <;> first | exact hcall _ _ _ _ hs | (cases hs; done)) | ((repeat' split at hs) <;> first | (cases hs; done) | (cases hs; rfl))
