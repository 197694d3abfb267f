
set_option maxRecDepth 20000
/-! STEPS BY TABLES: the class's rows of steps and the reference's numbers -/
def stabJ (k op f : Int) : Nat := if k = 0 then (if op = 1 then 1 else if f = 2 then 2 else 3) else if k = 2 then (if f = 2 then 4 else 5) else if k = 3 then (if op = 1 then 6 else if f = 2 then 2 else 3) else if k = 4 then (if op = 1 ∨ op = 3 then 0 else if f = 2 then 2 else 3) else if k = 5 then (if f = 2 then 7 else 8) else (if f = 2 then 2 else 3)
def monI (k op a c : Int) : Int := if k = 0 then a % 4 else if k = 1 then (if op = 0 then 1 else 0) else if k = 3 then (if op = 1 then -1 else c % 4) else 0
def stLen (j : Nat) : Nat := ((fl_st[j]?).getD []).length
def stC (j p : Nat) : Int := ((((fl_st[j]?).getD [])[p]?).getD 0).toInt
def stM (k op a c : Int) (p : Nat) : Int := if monI k op a c = -1 then (if p < 4 then (p : Int) else (p : Int) - 5) else monI k op a c
def stCode (C M : Int) : Int := if C = 0 then 100 + M else if C = 1 then 200 + M else if C = 2 then 1 else if C = 3 then 2 else if C = 4 then 3 else if C = 5 then 4 else 5
def opMax (k : Int) : Int := if k = 2 then 4 else if k = 5 then 0 else if k = 1 ∨ k = 3 then 1 else 3
/-- may an act with this op be on a tray of this kind -/
def opOK (k op : Int) : Prop := 0 ≤ k ∧ k ≤ 5 ∧ 0 ≤ op ∧ op ≤ opMax k
/-- monitors that were taken and not given back before place p -/
def heldB (k op a f c : Int) : Nat → Int → Bool
  | 0, _ => false
  | p + 1, m => if stF k op a f c p = 100 + m then true else if stF k op a f c p = 200 + m then false else heldB k op a f c p m
def lnk1 (k op f am c : Int) (p : Nat) : Bool := let j := stabJ k op f
  if p < stLen j then decide (stF k op am f c p = stCode (stC j p) (stM k op am c p)) && decide (stF k op am f c p ≠ 0) && (if stC j p = 1 then heldB k op am f c p (stM k op am c p) else true) && (if stC j p ≤ 1 then decide (0 ≤ stM k op am c p) && decide (stM k op am c p ≤ 3) else true)
  else if p = stLen j then decide (stF k op am f c p = 0) else true
def lnkB : Bool := (List.range 6).all fun k => (List.range 5).all fun op => !(decide ((op : Int) ≤ opMax k)) || (List.range 3).all fun f => (List.range 4).all fun am => (List.range 5).all fun c => (List.range 10).all fun p => lnk1 k op f am c p
theorem lnk_ok : lnkB = true := by decide +kernel
theorem stF_a (k op a f c i : Int) : stF k op a f c i = stF k op (a % 4) f c i := by
  unfold stF
  rw [show a % 4 % 4 = a % 4 by omega]
theorem heldB_a (k op a f c : Int) (m : Int) : ∀ p, heldB k op a f c p m = heldB k op (a % 4) f c p m
  | 0 => rfl
  | p + 1 => by
    unfold heldB
    rw [← stF_a, heldB_a k op a f c m p]
theorem monI_a (k op a c : Int) : monI k op (a % 4) c = monI k op a c := by
  unfold monI
  rw [show a % 4 % 4 = a % 4 by omega]
theorem stM_a (k op a c : Int) (p : Nat) : stM k op (a % 4) c p = stM k op a c p := by
  unfold stM
  rw [monI_a]
theorem lnk {k op f c : Int} (a : Int) (ho : opOK k op) (hf : 0 ≤ f ∧ f ≤ 2) (hc : 0 ≤ c ∧ c ≤ 4) {p : Nat} (hp : p < 10) : lnk1 k op f (a % 4) c p = true := by
  obtain ⟨h1, h2, h3, h4⟩ := ho
  have b4 : op ≤ 4 := by unfold opMax at h4; repeat' split at h4 <;> omega
  have e1 : ((k.toNat : Nat) : Int) = k := by omega
  have e2 : ((op.toNat : Nat) : Int) = op := by omega
  have e3 : ((f.toNat : Nat) : Int) = f := by omega
  have e4 : (((a % 4).toNat : Nat) : Int) = a % 4 := by omega
  have e5 : ((c.toNat : Nat) : Int) = c := by omega
  have h := List.all_eq_true.mp (List.all_eq_true.mp lnk_ok k.toNat (List.mem_range.mpr (by omega))) op.toNat (List.mem_range.mpr (by omega))
  rw [e1, e2, Bool.or_eq_true] at h
  rcases h with h | h
  · simp only [Bool.not_eq_true', decide_eq_false_iff_not] at h
    exact absurd h4 h
  · have h := List.all_eq_true.mp (List.all_eq_true.mp (List.all_eq_true.mp (List.all_eq_true.mp h f.toNat (List.mem_range.mpr (by omega))) (a % 4).toNat (List.mem_range.mpr (by omega))) c.toNat (List.mem_range.mpr (by omega))) p (List.mem_range.mpr hp)
    rw [e3, e4, e5] at h
    exact h
/-- within the row: the reference's step is the class's -/
theorem lnk_in {k op a f c : Int} (ho : opOK k op) (hf : 0 ≤ f ∧ f ≤ 2) (hc : 0 ≤ c ∧ c ≤ 4) {p : Nat} (hp : p < stLen (stabJ k op f)) (h10 : p < 10) : stF k op a f c p = stCode (stC (stabJ k op f) p) (stM k op a c p) ∧ stF k op a f c p ≠ 0 ∧ (stC (stabJ k op f) p = 1 → heldB k op a f c p (stM k op a c p) = true) ∧ (stC (stabJ k op f) p ≤ 1 → 0 ≤ stM k op a c p ∧ stM k op a c p ≤ 3) := by
  have h := lnk a ho hf hc h10
  unfold lnk1 at h
  simp only at h
  rw [if_pos hp] at h
  simp only [Bool.and_eq_true, decide_eq_true_eq] at h
  obtain ⟨⟨⟨h1, h2⟩, h3⟩, h4⟩ := h
  rw [← stF_a] at h1 h2
  rw [stM_a] at h1 h3 h4
  rw [← heldB_a] at h3
  refine ⟨h1, h2, fun z => ?_, fun z => ?_⟩
  · rw [if_pos z] at h3
    exact h3
  · rw [if_pos z] at h4
    simp only [Bool.and_eq_true, decide_eq_true_eq] at h4
    exact h4
theorem lnk_end {k op a f c : Int} (ho : opOK k op) (hf : 0 ≤ f ∧ f ≤ 2) (hc : 0 ≤ c ∧ c ≤ 4) (h10 : stLen (stabJ k op f) < 10) : stF k op a f c (stLen (stabJ k op f)) = 0 := by
  have h := lnk a ho hf hc h10
  unfold lnk1 at h
  simp only at h
  rw [if_neg (by omega), if_pos trivial, decide_eq_true_eq] at h
  rw [stF_a]
  exact h
