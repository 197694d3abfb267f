
set_option maxRecDepth 20000
/-! WHAT EXPLORE FOUND STAYS ALIKE -/
def E5 (h : Hp) : Prop := ∀ j : Nat, j < 5 → h.1 220 j = h.1 273 j
def LF (h : Hp) : Prop := LJ h ∧ E5 h
theorem E5.x {h h' : Hp} {mods : List Nat} (t : E5 h) (F : Fr mods h h') (n : 29 ∉ mods) (big : ∀ r : Nat, 223 ≤ r → r < 285 → h'.1 r = h.1 r) : E5 h' := fun j hj => by
  rw [(F 220 (by rw [show ab_kd 220 = 29 by decide +kernel]; exact n)).1, big 273 (by decide) (by decide)]
  exact t j hj
theorem E5.m {Ks : List Nat} {fs : List Int} {h h' : Hp} (t : E5 h) (F : Fq Ks fs h h') (R : Rf h h') (n : 81 ∉ Ks) : E5 h' := fun j hj => by
  rw [R.2 220 (by decide +kernel), show h'.1 273 j = h.1 273 j from F.c (K := 81) (by decide) (by decide) n j]
  exact t j hj
theorem cmp_explored {h h1 h2 : Hp} {d d2 : Nat} {a : Int32} {w v : Value} (t5 : E5 h) (S : SH h.2) (b : h1.1 273 = h.1 273) (S1 : SH h1.2) (X : Ev d 136 (0, [some (.ref 0), some (.int a)], [], h, fl_tot) (some w, h1, fl_tot)) (M : Ev d2 211 (0, [some (.ref 223), some (.int a)], [], h1, fl_tot) (some v, h2, fl_tot)) : w = v := by
  have fin : ∀ {y : Int32} {a1 a2 : Hp}, (some w, h1, fl_tot) = (some (Value.int y), a1, fl_tot) → (some v, h2, fl_tot) = (some (Value.int y), a2, fl_tot) → w = v := fun p q => by
    have p1 := (tri p).1
    have q1 := (tri q).1
    cases p1
    cases q1
    rfl
  rcases yk_x S X with ⟨c, x⟩ | ⟨c1, c2, x⟩ | ⟨c1, c2, x⟩
  · rcases zw_x S1 M with ⟨-, y⟩ | ⟨c', -⟩ | ⟨c', -⟩
    · exact fin x y
    · omega
    · omega
  · rcases zw_x S1 M with ⟨c', -⟩ | ⟨-, c', -⟩ | ⟨-, -, y⟩
    · omega
    · omega
    · have cl := lc_clamp (x := a) (by omega)
      rw [b, ← t5 _ (show a.toNatClampNeg < 5 by omega)] at y
      exact fin x y
  · rcases zw_x S1 M with ⟨c', -⟩ | ⟨-, -, y⟩ | ⟨-, c', -⟩
    · omega
    · exact fin x y
    · omega

theorem E5.k_trayHH {h : Hp} (t : E5 h) {n : Nat} (h6 : n < 6) (k a f : Int32) : E5 (trayHH h n k a f) := by
  intro j hj
  have ea : (trayHH h n k a f).1 220 j = h.1 220 j := by
    simp only [trayHH, rI, rF, rI2, rF2, true_and, and_true, if_true]
    repeat (first | rw [if_pos (by omega)] | rw [if_neg (by omega)])
  have eb : (trayHH h n k a f).1 273 j = h.1 273 j := by
    simp only [trayHH, rI, rF, rI2, rF2, true_and, and_true, if_true]
    repeat (first | rw [if_pos (by omega)] | rw [if_neg (by omega)])
  rw [ea, eb]
  exact t j hj

theorem E5.k_clerkHH {h : Hp} (t : E5 h) {n : Nat} (h5 : n < 5) : E5 (clerkHH h n) := by
  intro j hj
  have ea : (clerkHH h n).1 220 j = h.1 220 j := by
    simp only [clerkHH, rI, rF, rI2, rF2, true_and, and_true, if_true]
    repeat (first | rw [if_pos (by omega)] | rw [if_neg (by omega)])
  have eb : (clerkHH h n).1 273 j = h.1 273 j := by
    simp only [clerkHH, rI, rF, rI2, rF2, true_and, and_true, if_true]
    repeat (first | rw [if_pos (by omega)] | rw [if_neg (by omega)])
  rw [ea, eb]
  exact t j hj

theorem E5.k_actHH {h : Hp} (t : E5 h) {c0 n : Nat} (hc0 : c0 < 5) (h8 : n < 8) (tr op a b : Int32) : E5 (actHH h c0 n tr op a b) := by
  intro j hj
  have ea : (actHH h c0 n tr op a b).1 220 j = h.1 220 j := by
    simp only [actHH, rI, rF, rI2, rF2, true_and, and_true, if_true]
    repeat (first | rw [if_pos (by omega)] | rw [if_neg (by omega)])
  have eb : (actHH h c0 n tr op a b).1 273 j = h.1 273 j := by
    simp only [actHH, rI, rF, rI2, rF2, true_and, and_true, if_true]
    repeat (first | rw [if_pos (by omega)] | rw [if_neg (by omega)])
  rw [ea, eb]
  exact t j hj

theorem E5.k_batHH {h : Hp} (t : E5 h) (n : Nat) (v : Int32) : E5 (batHH h n v) := by
  intro j hj
  have ea : (batHH h n v).1 220 j = h.1 220 j := by
    simp only [batHH, rI, rF, rI2, rF2, true_and, and_true, if_true]
    repeat (first | rw [if_pos (by omega)] | rw [if_neg (by omega)])
  have eb : (batHH h n v).1 273 j = h.1 273 j := by
    simp only [batHH, rI, rF, rI2, rF2, true_and, and_true, if_true]
    repeat (first | rw [if_pos (by omega)] | rw [if_neg (by omega)])
  rw [ea, eb]
  exact t j hj

theorem E5.k_patHH {h : Hp} (t : E5 h) {c0 n : Nat} (hc0 : c0 < 5) (h8 : n < 8) (v : Int32) : E5 (patHH h c0 n v) := by
  intro j hj
  have ea : (patHH h c0 n v).1 220 j = h.1 220 j := by
    simp only [patHH, rI, rF, rI2, rF2, true_and, and_true, if_true]
    repeat (first | rw [if_pos (by omega)] | rw [if_neg (by omega)])
  have eb : (patHH h c0 n v).1 273 j = h.1 273 j := by
    simp only [patHH, rI, rF, rI2, rF2, true_and, and_true, if_true]
    repeat (first | rw [if_pos (by omega)] | rw [if_neg (by omega)])
  rw [ea, eb]
  exact t j hj

theorem E5.k_thrHH {h : Hp} (t : E5 h) {t0 n : Nat} (ht0 : t0 < 6) (h8 : n < 32) (v : Int32) : E5 (thrHH h t0 n v) := by
  intro j hj
  have ea : (thrHH h t0 n v).1 220 j = h.1 220 j := by
    simp only [thrHH, rI, rF, rI2, rF2, true_and, and_true, if_true]
    repeat (first | rw [if_pos (by omega)] | rw [if_neg (by omega)])
  have eb : (thrHH h t0 n v).1 273 j = h.1 273 j := by
    simp only [thrHH, rI, rF, rI2, rF2, true_and, and_true, if_true]
    repeat (first | rw [if_pos (by omega)] | rw [if_neg (by omega)])
  rw [ea, eb]
  exact t j hj

theorem E5.k_clrHH {h : Hp} (t : E5 h)  : E5 (clrHH h) := by
  intro j hj
  have ea : (clrHH h).1 220 j = h.1 220 j := by
    simp only [clrHH, rI, rF, rI2, rF2, true_and, and_true, if_true]
    repeat (first | rw [if_pos (by omega)] | rw [if_neg (by omega)])
  have eb : (clrHH h).1 273 j = h.1 273 j := by
    simp only [clrHH, rI, rF, rI2, rF2, true_and, and_true, if_true]
    repeat (first | rw [if_pos (by omega)] | rw [if_neg (by omega)])
  rw [ea, eb]
  exact t j hj
