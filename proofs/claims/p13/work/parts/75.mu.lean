/-! THE SEARCH ENDS: what falls -/
def mu (nt : Int → Int) (dp : Int) : Int :=
  (if 0 ≤ dp then (13 - nt 0) * 4049565169664 else 0) + (if 1 ≤ dp then (13 - nt 1) * 289254654976 else 0) + (if 2 ≤ dp then (13 - nt 2) * 20661046784 else 0) + (if 3 ≤ dp then (13 - nt 3) * 1475789056 else 0) +
  (if 4 ≤ dp then (13 - nt 4) * 105413504 else 0) + (if 5 ≤ dp then (13 - nt 5) * 7529536 else 0) + (if 6 ≤ dp then (13 - nt 6) * 537824 else 0) + (if 7 ≤ dp then (13 - nt 7) * 38416 else 0) +
  (if 8 ≤ dp then (13 - nt 8) * 2744 else 0) + (if 9 ≤ dp then (13 - nt 9) * 196 else 0) + (if 10 ≤ dp then (13 - nt 10) * 14 else 0) + (if 11 ≤ dp then (13 - nt 11) * 1 else 0)
theorem mu_inc {nt nt' : Int → Int} {dp : Int} (hd : 0 ≤ dp ∧ dp ≤ 11) (h : ∀ d, 0 ≤ d → d ≤ 11 → nt' d = if d = dp then nt d + 1 else nt d) : mu nt' dp < mu nt dp := by
  have : dp = 0 ∨ dp = 1 ∨ dp = 2 ∨ dp = 3 ∨ dp = 4 ∨ dp = 5 ∨ dp = 6 ∨ dp = 7 ∨ dp = 8 ∨ dp = 9 ∨ dp = 10 ∨ dp = 11 := by omega
  have h0 := h 0 (by omega) (by omega)
  have h1 := h 1 (by omega) (by omega)
  have h2 := h 2 (by omega) (by omega)
  have h3 := h 3 (by omega) (by omega)
  have h4 := h 4 (by omega) (by omega)
  have h5 := h 5 (by omega) (by omega)
  have h6 := h 6 (by omega) (by omega)
  have h7 := h 7 (by omega) (by omega)
  have h8 := h 8 (by omega) (by omega)
  have h9 := h 9 (by omega) (by omega)
  have h10 := h 10 (by omega) (by omega)
  have h11 := h 11 (by omega) (by omega)
  clear h
  unfold mu
  rcases this with rfl | rfl | rfl | rfl | rfl | rfl | rfl | rfl | rfl | rfl | rfl | rfl <;> simp at h0 h1 h2 h3 h4 h5 h6 h7 h8 h9 h10 h11 ⊢ <;> omega
theorem mu_push {nt nt' : Int → Int} {dp : Int} (hd : 0 ≤ dp ∧ dp ≤ 10) (h : ∀ d, 0 ≤ d → d ≤ 11 → nt' d = if d = dp + 1 then 0 else if d = dp then nt d + 1 else nt d) : mu nt' (dp + 1) < mu nt dp := by
  have : dp = 0 ∨ dp = 1 ∨ dp = 2 ∨ dp = 3 ∨ dp = 4 ∨ dp = 5 ∨ dp = 6 ∨ dp = 7 ∨ dp = 8 ∨ dp = 9 ∨ dp = 10 := by omega
  have h0 := h 0 (by omega) (by omega)
  have h1 := h 1 (by omega) (by omega)
  have h2 := h 2 (by omega) (by omega)
  have h3 := h 3 (by omega) (by omega)
  have h4 := h 4 (by omega) (by omega)
  have h5 := h 5 (by omega) (by omega)
  have h6 := h 6 (by omega) (by omega)
  have h7 := h 7 (by omega) (by omega)
  have h8 := h 8 (by omega) (by omega)
  have h9 := h 9 (by omega) (by omega)
  have h10 := h 10 (by omega) (by omega)
  have h11 := h 11 (by omega) (by omega)
  clear h
  unfold mu
  rcases this with rfl | rfl | rfl | rfl | rfl | rfl | rfl | rfl | rfl | rfl | rfl <;> simp at h0 h1 h2 h3 h4 h5 h6 h7 h8 h9 h10 h11 ⊢ <;> omega
theorem mu_pop {nt : Int → Int} {dp : Int} (hd : 0 ≤ dp ∧ dp ≤ 11) (h : nt dp ≤ 12) : mu nt (dp + -1) < mu nt dp := by
  have : dp = 0 ∨ dp = 1 ∨ dp = 2 ∨ dp = 3 ∨ dp = 4 ∨ dp = 5 ∨ dp = 6 ∨ dp = 7 ∨ dp = 8 ∨ dp = 9 ∨ dp = 10 ∨ dp = 11 := by omega
  unfold mu
  rcases this with rfl | rfl | rfl | rfl | rfl | rfl | rfl | rfl | rfl | rfl | rfl | rfl <;> simp <;> omega
theorem mu_nn {nt : Int → Int} {dp : Int} (h : ∀ d, 0 ≤ d → d ≤ dp → d ≤ 11 → nt d ≤ 13) : 0 ≤ mu nt dp := by
  unfold mu
  have h0 := h 0 (by omega)
  have h1 := h 1 (by omega)
  have h2 := h 2 (by omega)
  have h3 := h 3 (by omega)
  have h4 := h 4 (by omega)
  have h5 := h 5 (by omega)
  have h6 := h 6 (by omega)
  have h7 := h 7 (by omega)
  have h8 := h 8 (by omega)
  have h9 := h 9 (by omega)
  have h10 := h 10 (by omega)
  have h11 := h 11 (by omega)
  clear h
  have nn : ∀ (p : Prop) [Decidable p] (x : Int), (p → 0 ≤ x) → 0 ≤ if p then x else 0 := fun p _ x hx => by
    split
    · rename_i z; exact hx z
    · omega
  have a0 := nn (0 ≤ dp) ((13 - nt 0) * 4049565169664) (fun z => by have := h0 z (by omega); omega)
  have a1 := nn (1 ≤ dp) ((13 - nt 1) * 289254654976) (fun z => by have := h1 z (by omega); omega)
  have a2 := nn (2 ≤ dp) ((13 - nt 2) * 20661046784) (fun z => by have := h2 z (by omega); omega)
  have a3 := nn (3 ≤ dp) ((13 - nt 3) * 1475789056) (fun z => by have := h3 z (by omega); omega)
  have a4 := nn (4 ≤ dp) ((13 - nt 4) * 105413504) (fun z => by have := h4 z (by omega); omega)
  have a5 := nn (5 ≤ dp) ((13 - nt 5) * 7529536) (fun z => by have := h5 z (by omega); omega)
  have a6 := nn (6 ≤ dp) ((13 - nt 6) * 537824) (fun z => by have := h6 z (by omega); omega)
  have a7 := nn (7 ≤ dp) ((13 - nt 7) * 38416) (fun z => by have := h7 z (by omega); omega)
  have a8 := nn (8 ≤ dp) ((13 - nt 8) * 2744) (fun z => by have := h8 z (by omega); omega)
  have a9 := nn (9 ≤ dp) ((13 - nt 9) * 196) (fun z => by have := h9 z (by omega); omega)
  have a10 := nn (10 ≤ dp) ((13 - nt 10) * 14) (fun z => by have := h10 z (by omega); omega)
  have a11 := nn (11 ≤ dp) ((13 - nt 11) * 1) (fun z => by have := h11 z (by omega); omega)
  omega
