
set_option maxRecDepth 20000
/-! WHERE THE STRIPES' ROWS LIE, KEPT BY THE LAW -/
def LZS (h : Hp) : Prop := LK h ∧ SS h.2
theorem SS_x {h h' : Hp} {mods : List Nat} (Z : SS h.2) (F : Fr mods h h') (n : 8 ∉ mods) : SS h'.2 := fun t ht s hs => by
  rw [(F (12 + 24 * t + 4 * s) (by rw [kd_stripe ht hs]; exact n)).2]
  exact Z t ht s hs
def ct_ss (l : List (Nat × Nat × Nat)) : Bool := (List.range 6).all fun t => (List.range 4).all fun s => decide (lkR l (12 + 24 * t + 4 * s) 0 = some (13 + 24 * t + 4 * s)) && decide (lkR l (12 + 24 * t + 4 * s) 1 = some (14 + 24 * t + 4 * s))
def ct_ck7 : Bool := match ct_a with
  | some (false, _, c) => (match ct_b c.2.2.2.1 c.2.2.2.2 with
    | some (false, _, c2) => ct_ss c2.2.2.2.1.1
    | _ => false)
  | _ => false
theorem ct_ok7 : ct_ck7 = true := by decide +kernel
theorem SS_start {g h' : Hp} {w c w2 c2 : _} (a1 : ct_a = some (false, w, c)) (a4 : ct_b c.2.2.2.1 c.2.2.2.2 = some (false, w2, c2)) (N : Nx (hpL g c2.2.2.2.1) h') : SS h'.2 := by
  have h7 := ct_ok7
  unfold ct_ck7 at h7
  rw [a1] at h7
  simp only at h7
  rw [a4] at h7
  simp only at h7
  unfold ct_ss at h7
  refine fun t ht s hs => Or.inl ?_
  have k := List.all_eq_true.mp (List.all_eq_true.mp h7 t (List.mem_range.mpr ht)) s (List.mem_range.mpr hs)
  rw [Bool.and_eq_true, decide_eq_true_eq, decide_eq_true_eq] at k
  rw [N.2.1]
  exact ⟨lkR_ok k.1, lkR_ok k.2⟩
