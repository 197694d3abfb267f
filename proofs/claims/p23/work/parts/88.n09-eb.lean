
set_option maxRecDepth 20000
/-! WHAT EXPLORE FOUND, AT THE START -/
def ct_r5 (l : List (Nat × Nat × Int32)) : Bool := (List.range 5).all fun j => decide (hpI nz0 l 220 j = 0)
def ct_ckE : Bool := match ct_a with
  | some (false, _, c) => (match ct_b c.2.2.2.1 c.2.2.2.2 with
    | some (false, _, c2) => ct_r5 c2.2.2.2.1.2
    | _ => false)
  | _ => false
theorem ct_okE : ct_ckE = true := by decide +kernel
theorem E5_start {g h' : Hp} {w c w2 c2 : _} (a1 : ct_a = some (false, w, c)) (a4 : ct_b c.2.2.2.1 c.2.2.2.2 = some (false, w2, c2)) (a6 : cmT c2.2.2.2.1 = true) (g0 : ∀ r j, r < 1000 → g.1 r j = 0 ∧ g.2 r j = none) (N : Nx (hpL g c2.2.2.2.1) h') (F : Fq [41] [] (hpL g c2.2.2.2.1) h') : E5 h' := by
  have h6 := ct_okE
  unfold ct_ckE at h6
  rw [a1] at h6
  simp only at h6
  rw [a4] at h6
  simp only at h6
  unfold ct_r5 at h6
  have low : ∀ r i, r < 223 → h'.1 r i = hpI nz0 c2.2.2.2.1.2 r i := fun r i hr => by
    rw [N.2.2 r (by have := kdl hr; omega)]
    exact hpI_b (g0 r i (by omega)).1 _
  intro j hj
  have k := of_decide_eq_true (List.all_eq_true.mp h6 j (List.mem_range.mpr hj))
  have mz : h'.1 273 j = 0 := by
    have e : h'.1 273 j = (hpL g c2.2.2.2.1).1 273 j := F.c (K := 81) (by decide) (by decide) (by decide) j
    rw [e, hp_far a6 (by decide +kernel)]
    exact (g0 273 j (by decide)).1
  rw [low _ _ (by decide), k, mz]
