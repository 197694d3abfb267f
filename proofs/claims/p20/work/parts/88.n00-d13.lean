
set_option maxRecDepth 20000
/-! THE TRIES ARE THE SAME -/
def T6 (h : Hp) : Prop := h.1 0 6 = h.1 223 57
theorem T6.x {h h' : Hp} {d m : Nat} {ls : List (Option Value)} {v : Option Value} {S : List Nat} (t : T6 h) (e : Ev d m (0, ls, [], h, fl_tot) (v, h', fl_tot)) (hm : S.contains m = true) (c : sfChk 9 6 S = true) (big : h'.1 223 = h.1 223) : T6 h' := by
  unfold T6
  rw [sf_ev c hm e 0 (by decide +kernel), big]
  exact t
theorem T6.m {h h' : Hp} {d m : Nat} {ls : List (Option Value)} {v : Option Value} {S : List Nat} (t : T6 h) (e : Ev d m (0, ls, [], h, fl_tot) (v, h', fl_tot)) (hm : S.contains m = true) (c : sfChk 10 57 S = true) (R : Rf h h') : T6 h' := by
  unfold T6
  rw [sf_ev c hm e 223 (by decide +kernel), R.2 0 (by decide +kernel)]
  exact t

theorem T6.k_trayHH {h : Hp} (t : T6 h) {n : Nat} (h6 : n < 6) (k a f : Int32) : T6 (trayHH h n k a f) := by
  have ea : (trayHH h n k a f).1 0 6 = h.1 0 6 := by
    simp only [trayHH, rI, rF, rI2, rF2, true_and, and_true, if_true]
    repeat (first | rw [if_pos (by omega)] | rw [if_neg (by omega)])
  have eb : (trayHH h n k a f).1 223 57 = h.1 223 57 := by
    simp only [trayHH, rI, rF, rI2, rF2, true_and, and_true, if_true]
    repeat (first | rw [if_pos (by omega)] | rw [if_neg (by omega)])
  unfold T6
  rw [ea, eb]
  exact t

theorem T6.k_clerkHH {h : Hp} (t : T6 h) {n : Nat} (h5 : n < 5) : T6 (clerkHH h n) := by
  have ea : (clerkHH h n).1 0 6 = h.1 0 6 := by
    simp only [clerkHH, rI, rF, rI2, rF2, true_and, and_true, if_true]
    repeat (first | rw [if_pos (by omega)] | rw [if_neg (by omega)])
  have eb : (clerkHH h n).1 223 57 = h.1 223 57 := by
    simp only [clerkHH, rI, rF, rI2, rF2, true_and, and_true, if_true]
    repeat (first | rw [if_pos (by omega)] | rw [if_neg (by omega)])
  unfold T6
  rw [ea, eb]
  exact t

theorem T6.k_actHH {h : Hp} (t : T6 h) {c0 n : Nat} (hc0 : c0 < 5) (h8 : n < 8) (tr op a b : Int32) : T6 (actHH h c0 n tr op a b) := by
  have ea : (actHH h c0 n tr op a b).1 0 6 = h.1 0 6 := by
    simp only [actHH, rI, rF, rI2, rF2, true_and, and_true, if_true]
    repeat (first | rw [if_pos (by omega)] | rw [if_neg (by omega)])
  have eb : (actHH h c0 n tr op a b).1 223 57 = h.1 223 57 := by
    simp only [actHH, rI, rF, rI2, rF2, true_and, and_true, if_true]
    repeat (first | rw [if_pos (by omega)] | rw [if_neg (by omega)])
  unfold T6
  rw [ea, eb]
  exact t

theorem T6.k_batHH {h : Hp} (t : T6 h) (n : Nat) (v : Int32) : T6 (batHH h n v) := by
  have ea : (batHH h n v).1 0 6 = h.1 0 6 := by
    simp only [batHH, rI, rF, rI2, rF2, true_and, and_true, if_true]
    repeat (first | rw [if_pos (by omega)] | rw [if_neg (by omega)])
  have eb : (batHH h n v).1 223 57 = h.1 223 57 := by
    simp only [batHH, rI, rF, rI2, rF2, true_and, and_true, if_true]
    repeat (first | rw [if_pos (by omega)] | rw [if_neg (by omega)])
  unfold T6
  rw [ea, eb]
  exact t

theorem T6.k_patHH {h : Hp} (t : T6 h) {c0 n : Nat} (hc0 : c0 < 5) (h8 : n < 8) (v : Int32) : T6 (patHH h c0 n v) := by
  have ea : (patHH h c0 n v).1 0 6 = h.1 0 6 := by
    simp only [patHH, rI, rF, rI2, rF2, true_and, and_true, if_true]
    repeat (first | rw [if_pos (by omega)] | rw [if_neg (by omega)])
  have eb : (patHH h c0 n v).1 223 57 = h.1 223 57 := by
    simp only [patHH, rI, rF, rI2, rF2, true_and, and_true, if_true]
    repeat (first | rw [if_pos (by omega)] | rw [if_neg (by omega)])
  unfold T6
  rw [ea, eb]
  exact t

theorem T6.k_thrHH {h : Hp} (t : T6 h) {t0 n : Nat} (ht0 : t0 < 6) (h8 : n < 32) (v : Int32) : T6 (thrHH h t0 n v) := by
  have ea : (thrHH h t0 n v).1 0 6 = h.1 0 6 := by
    simp only [thrHH, rI, rF, rI2, rF2, true_and, and_true, if_true]
    repeat (first | rw [if_pos (by omega)] | rw [if_neg (by omega)])
  have eb : (thrHH h t0 n v).1 223 57 = h.1 223 57 := by
    simp only [thrHH, rI, rF, rI2, rF2, true_and, and_true, if_true]
    repeat (first | rw [if_pos (by omega)] | rw [if_neg (by omega)])
  unfold T6
  rw [ea, eb]
  exact t

theorem T6.k_clrHH {h : Hp} (t : T6 h)  : T6 (clrHH h) := by
  have ea : (clrHH h).1 0 6 = h.1 0 6 := by
    simp only [clrHH, rI, rF, rI2, rF2, true_and, and_true, if_true]
    repeat (first | rw [if_pos (by omega)] | rw [if_neg (by omega)])
  have eb : (clrHH h).1 223 57 = h.1 223 57 := by
    simp only [clrHH, rI, rF, rI2, rF2, true_and, and_true, if_true]
    repeat (first | rw [if_pos (by omega)] | rw [if_neg (by omega)])
  unfold T6
  rw [ea, eb]
  exact t
