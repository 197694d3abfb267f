
set_option maxRecDepth 20000
/-! WHAT THE LAW KEEPS FOR THE CHECKER -/
def LK (h : Hp) : Prop := LJ h ∧ RQ2 h

theorem RQ2.k_trayHH {h : Hp} {n : Nat} (h6 : n < 6) (k a f : Int32) : RQ2 (trayHH h n k a f) := by
  refine RQ2.off ?_
  · simp only [trayHH, rI, rF, rI2, rF2, true_and, and_true, if_true]
    repeat (first | rw [if_pos (by omega)] | rw [if_neg (by omega)])

theorem RQ2.k_clerkHH {h : Hp} {n : Nat} (h5 : n < 5) : RQ2 (clerkHH h n) := by
  refine RQ2.off ?_
  · simp only [clerkHH, rI, rF, rI2, rF2, true_and, and_true, if_true]
    repeat (first | rw [if_pos (by omega)] | rw [if_neg (by omega)])

theorem RQ2.k_actHH {h : Hp} {c0 n : Nat} (hc0 : c0 < 5) (h8 : n < 8) (tr op a b : Int32) : RQ2 (actHH h c0 n tr op a b) := by
  refine RQ2.off ?_
  · simp only [actHH, rI, rF, rI2, rF2, true_and, and_true, if_true]
    repeat (first | rw [if_pos (by omega)] | rw [if_neg (by omega)])

theorem RQ2.k_batHH {h : Hp} (n : Nat) (v : Int32) : RQ2 (batHH h n v) := by
  refine RQ2.off ?_
  · simp only [batHH, rI, rF, rI2, rF2, true_and, and_true, if_true]
    repeat (first | rw [if_pos (by omega)] | rw [if_neg (by omega)])

theorem RQ2.k_patHH {h : Hp} {c0 n : Nat} (hc0 : c0 < 5) (h8 : n < 8) (v : Int32) : RQ2 (patHH h c0 n v) := by
  refine RQ2.off ?_
  · simp only [patHH, rI, rF, rI2, rF2, true_and, and_true, if_true]
    repeat (first | rw [if_pos (by omega)] | rw [if_neg (by omega)])

theorem RQ2.k_thrHH {h : Hp} {t0 n : Nat} (ht0 : t0 < 6) (h8 : n < 32) (v : Int32) : RQ2 (thrHH h t0 n v) := by
  refine RQ2.off ?_
  · simp only [thrHH, rI, rF, rI2, rF2, true_and, and_true, if_true]
    repeat (first | rw [if_pos (by omega)] | rw [if_neg (by omega)])

theorem RQ2.k_clrHH {h : Hp}  : RQ2 (clrHH h) := by
  refine RQ2.off ?_
  · simp only [clrHH, rI, rF, rI2, rF2, true_and, and_true, if_true]
    repeat (first | rw [if_pos (by omega)] | rw [if_neg (by omega)])
theorem RQ2_start {g h' : Hp} {w c w2 c2 : _} (a1 : ct_a = some (false, w, c)) (a4 : ct_b c.2.2.2.1 c.2.2.2.2 = some (false, w2, c2)) (a6 : cmT c2.2.2.2.1 = true) (g0 : ∀ r j, r < 1000 → g.1 r j = 0 ∧ g.2 r j = none) (N : Nx (hpL g c2.2.2.2.1) h') (F : Fq [41] [] (hpL g c2.2.2.2.1) h') : RQ2 h' := by
  have mz : ∀ k : Nat, h'.1 223 k = 0 := fun k => by
    rw [F.fc k (by simp), hp_far a6 (by decide +kernel)]
    exact (g0 223 k (by decide)).1
  exact fun z => absurd (by rw [mz]; decide) z
