
set_option maxRecDepth 20000
/-! AT THE START: nothing was run -/
theorem RO_start {g h' : Hp} {w c w2 c2 : _} (a1 : ct_a = some (false, w, c)) (a4 : ct_b c.2.2.2.1 c.2.2.2.2 = some (false, w2, c2)) (a6 : cmT c2.2.2.2.1 = true) (g0 : ∀ r j, r < 1000 → g.1 r j = 0 ∧ g.2 r j = none) (N : Nx (hpL g c2.2.2.2.1) h') (F : Fq [41] [] (hpL g c2.2.2.2.1) h') : RO h' := by
  have h6 := ct_ok5
  unfold ct_ck5 at h6
  rw [a1] at h6
  simp only at h6
  rw [a4] at h6
  simp only at h6
  rw [Bool.and_eq_true] at h6
  have h6 := h6.2
  unfold ct_ro at h6
  rw [Bool.and_eq_true, decide_eq_true_eq, decide_eq_true_eq] at h6
  have low : ∀ r i, r < 223 → h'.1 r i = hpI nz0 c2.2.2.2.1.2 r i := fun r i hr => by
    rw [N.2.2 r (by have := kdl hr; omega)]
    exact hpI_b (g0 r i (by omega)).1 _
  have mz : ∀ k : Nat, h'.1 223 k = 0 := fun k => by
    rw [F.fc k (by simp), hp_far a6 (by decide +kernel)]
    exact (g0 223 k (by decide)).1
  exact ⟨by rw [low _ _ (by decide), h6.1, mz], by rw [low _ _ (by decide), h6.2, mz], fun z => absurd (by rw [mz]; decide) z⟩
