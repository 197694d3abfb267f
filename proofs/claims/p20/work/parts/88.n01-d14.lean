
set_option maxRecDepth 20000
/-! THE TRIES AT THE START -/
def ct_r6 (l : List (Nat × Nat × Int32)) : Bool := decide (hpI nz0 l 0 6 = 0)
def ct_ck6 : Bool := match ct_a with
  | some (false, _, c) => (match ct_b c.2.2.2.1 c.2.2.2.2 with
    | some (false, _, c2) => ct_r6 c2.2.2.2.1.2
    | _ => false)
  | _ => false
theorem ct_ok6 : ct_ck6 = true := by decide +kernel
theorem T6_start {g h' : Hp} {w c w2 c2 : _} (a1 : ct_a = some (false, w, c)) (a4 : ct_b c.2.2.2.1 c.2.2.2.2 = some (false, w2, c2)) (a6 : cmT c2.2.2.2.1 = true) (g0 : ∀ r j, r < 1000 → g.1 r j = 0 ∧ g.2 r j = none) (N : Nx (hpL g c2.2.2.2.1) h') (F : Fq [41] [] (hpL g c2.2.2.2.1) h') : T6 h' := by
  have h6 := ct_ok6
  unfold ct_ck6 at h6
  rw [a1] at h6
  simp only at h6
  rw [a4] at h6
  simp only at h6
  unfold ct_r6 at h6
  rw [decide_eq_true_eq] at h6
  have low : ∀ r i, r < 223 → h'.1 r i = hpI nz0 c2.2.2.2.1.2 r i := fun r i hr => by
    rw [N.2.2 r (by have := kdl hr; omega)]
    exact hpI_b (g0 r i (by omega)).1 _
  have mz : ∀ k : Nat, h'.1 223 k = 0 := fun k => by
    rw [F.fc k (by simp), hp_far a6 (by decide +kernel)]
    exact (g0 223 k (by decide)).1
  unfold T6
  rw [low _ _ (by decide), h6, mz]
