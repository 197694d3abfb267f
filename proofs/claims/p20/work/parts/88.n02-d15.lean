
set_option maxRecDepth 20000
/-! TRIES -/

theorem xt_tries {d : Nat} {h : Hp}  (S : SH h.2)  {r : Option Value × Hp × Nat} (e : Ev d 127 (0, [some (.ref 0)], [], h, fl_tot) r) : r = (some (.int (h.1 0 6)), h, fl_tot) := by
  have e : Ev d 127 (4, [some (.ref 0)], [.int (h.1 0 6)], h, fl_tot) r := e.bk [((2, [0, 2], 1), 0), ((9, [9, 6], 4), 1)] [] (by decide +kernel) trivial rfl
  have w := b22 e (show fl_code 127 4 = some (22, [0], 5) by decide +kernel)
  exact (by rw [w])

theorem xm_tries {d : Nat} {h : Hp}  (S : SH h.2)  {r : Option Value × Hp × Nat} (e : Ev d 204 (0, [some (.ref 223)], [], h, fl_tot) r) : r = (some (.int (h.1 223 57)), h, fl_tot) := by
  have e : Ev d 204 (4, [some (.ref 223)], [.int (h.1 223 57)], h, fl_tot) r := e.bk [((2, [0, 2], 1), 0), ((9, [10, 57], 4), 1)] [] (by decide +kernel) trivial rfl
  have w := b22 e (show fl_code 204 4 = some (22, [0], 5) by decide +kernel)
  exact (by rw [w])

def LT (h : Hp) : Prop := LK h ∧ T6 h
theorem cmp_tries {h h1 h2 : Hp} {d d2 : Nat} {w v : Value} (t6 : T6 h) (S : SH h.2) (b : h1.1 223 = h.1 223) (S1 : SH h1.2) (X : Ev d 127 (0, [some (.ref 0)], [], h, fl_tot) (some w, h1, fl_tot)) (M : Ev d2 204 (0, [some (.ref 223)], [], h1, fl_tot) (some v, h2, fl_tot)) : w = v := by
  have x := (tri (xt_tries S X)).1
  have y := (tri (xm_tries S1 M)).1
  rw [b, ← show h.1 0 6 = h.1 223 57 from t6, ← x] at y
  exact (Option.some.inj y).symm
