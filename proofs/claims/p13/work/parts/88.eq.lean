
set_option maxRecDepth 20000
/-! STEPS OVER THE CLASS'S OBJECTS -/
theorem i5 : (Int32.ofInt 5).toInt = 5 := ofInt_toInt (by omega) (by omega)
theorem i0 : (Int32.ofInt 0).toInt = 0 := ofInt_toInt (by omega) (by omega)
theorem i1 : (Int32.ofInt 1).toInt = 1 := ofInt_toInt (by omega) (by omega)
theorem kd0 : ab_kd 0 = 1 := by decide +kernel
theorem cc_bd {h : Hp} (hT : TInv h) : 0 ≤ (h.1 (xc 2) 3).toInt ∧ (h.1 (xc 2) 3).toInt ≤ 5 := by
  have s := hT (xc 2) 4 4 _ 3 (1, 0, 5) (by rw [kd2]; omega) (by rw [kd2]; rfl) (by decide) rfl
  exact s
theorem tc_bd {h : Hp} (hT : TInv h) : 0 ≤ (h.1 (xc 2) 2).toInt ∧ (h.1 (xc 2) 2).toInt ≤ 6 := by
  have s := hT (xc 2) 4 4 _ 2 (1, 0, 6) (by rw [kd2]; omega) (by rw [kd2]; rfl) (by decide) rfl
  exact s
theorem setI_eq {h : Hp} {r j : Nat} {x : Int32} : (fl_setI h r j x).1 r j = x := by
  show (if r = r ∧ j = j then x else h.1 r j) = _
  rw [if_pos ⟨rfl, rfl⟩]

def slB (K j : Nat) (x : Int) : Bool := match ab_K[K]? with
  | some (code, _, tys) => (match (if code < 20 then tys[j]? else tys[0]?) with
    | some t => decide (t.1 ≠ 1) || (decide (t.2.1 ≤ x) && decide (x ≤ t.2.2))
    | none => true)
  | none => true
theorem TInv.set {h : Hp} (hT : TInv h) {r K j : Nat} {x : Int32} {z : Int} (hk : ab_kd r = K) (hx : x.toInt = z) (hc : slB K j z = true) : TInv (fl_setI h r j x) := by
  intro r' code size tys j' t h1 h2 h3 h4
  have s := hT r' code size tys j' t h1 h2 h3 h4
  by_cases e : r' = r ∧ j' = j
  · obtain ⟨rfl, rfl⟩ := e
    unfold slB at hc
    rw [← hk, h2] at hc
    simp only at hc
    rw [h4] at hc
    simp only [Bool.or_eq_true, Bool.and_eq_true, decide_eq_true_eq] at hc
    unfold slotOK at s ⊢
    split
    · rename_i e1
      rw [setI_eq, hx]
      rcases hc with hc | hc
      · exact absurd e1 hc
      · exact hc
    · rename_i e1
      rw [e1] at s
      exact s
    · rename_i e1
      rw [e1] at s
      exact s
    · trivial
  · have e1 : (fl_setI h r j x).1 r' j' = h.1 r' j' := by
      show (if r' = r ∧ j' = j then x else h.1 r' j') = _
      rw [if_neg e]
    unfold slotOK at s ⊢
    rw [e1]
    exact s
theorem TInv.ran {h : Hp} (hT : TInv h) : TInv (fl_setI h 0 5 (Int32.ofInt (0))) := TInv.set hT kd0 i0 (by decide +kernel)
theorem i2 : (Int32.ofInt 2).toInt = 2 := ofInt_toInt (by omega) (by omega)
theorem i8 : (Int32.ofInt 8).toInt = 8 := ofInt_toInt (by omega) (by omega)
def trayB (k a f : Int) : Prop := k < 0 ∨ 5 < k ∨ f < 0 ∨ 2 < f ∨ (k = 2 ∧ (a < 1 ∨ 8 < a))
