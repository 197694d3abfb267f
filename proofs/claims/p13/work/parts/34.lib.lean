/-! FORGETTING LOCALS, FRAMES BY KIND, SUMS OVER THE CLERKS -/
theorem LVs.fg {vs ls : List (Option Value)} (h : LVs vs ls) (i : Nat) {z : Int} (hv : vs[i]? = some (some (iv z))) : LVs (vs.set i none) ls := by
  refine ⟨by rw [List.length_set]; exact h.1, fun j => ?_⟩
  by_cases hj : j = i
  · subst hj
    have hlt := (List.getElem?_eq_some_iff.mp hv).1
    rw [List.getElem?_set_self hlt]
    refine ⟨fun _ v hl => ?_, fun v hl => (by cases hl)⟩
    have := (h.2 j).2 _ hv
    rw [this] at hl
    cases hl
    rfl
  · rw [List.getElem?_set_ne (Ne.symm hj)]
    exact h.2 j
/-- only given arrays and given slots of the object are written -/
def Fq (Ks : List Nat) (fs : List Int) (h h' : Hp) : Prop := (∀ K i, 32 ≤ K → K < 93 → K ∉ Ks → rd K i h' = rd K i h) ∧ (∀ k : Int, 0 ≤ k → k ∉ fs → rd 31 k h' = rd 31 k h)
theorem Fq.refl {Ks : List Nat} {fs : List Int} (h : Hp) : Fq Ks fs h h := ⟨fun _ _ _ _ _ => rfl, fun _ _ _ => rfl⟩
theorem Fq.trans {Ks : List Nat} {fs : List Int} {a b c : Hp} (x : Fq Ks fs a b) (y : Fq Ks fs b c) : Fq Ks fs a c := ⟨fun K i h1 h2 h3 => (y.1 K i h1 h2 h3).trans (x.1 K i h1 h2 h3), fun k h1 h2 => (y.2 k h1 h2).trans (x.2 k h1 h2)⟩
theorem Fq.wide {Ks Ks' : List Nat} {fs fs' : List Int} {a b : Hp} (h1 : (Ks.all fun K => Ks'.contains K) = true) (h2 : (fs.all fun k => fs'.contains k) = true) (x : Fq Ks fs a b) : Fq Ks' fs' a b := by
  refine ⟨fun K i l1 l2 l3 => x.1 K i l1 l2 fun z => l3 ?_, fun k l1 l2 => x.2 k l1 fun z => l2 ?_⟩
  · have := List.all_eq_true.mp h1 K z
    simpa using this
  · have := List.all_eq_true.mp h2 k z
    simpa using this
theorem Fq.put {Ks : List Nat} {fs : List Int} {a b : Hp} (x : Fq Ks fs a b) (K : Nat) (i v : Int) (h1 : (decide (32 ≤ K) && decide (K < 93) && Ks.contains K) = true) : Fq Ks fs a (wr K i v b) := by
  simp only [Bool.and_eq_true, decide_eq_true_eq, List.contains_iff_mem] at h1
  refine ⟨fun K' j l1 l2 l3 => ?_, fun k l1 l2 => ?_⟩
  · have hne : K' ≠ K := fun z => l3 (by rw [z]; exact h1.2)
    rw [rd_k (by simp only [kne, Bool.and_eq_true, decide_eq_true_eq]; omega)]
    exact x.1 K' j l1 l2 l3
  · rw [rd_k (by simp only [kne, Bool.and_eq_true, decide_eq_true_eq]; omega)]
    exact x.2 k l1 l2
theorem Fq.putf {Ks : List Nat} {fs : List Int} {a b : Hp} (x : Fq Ks fs a b) (i v : Int) (h1 : (decide (0 ≤ i) && fs.contains i) = true) : Fq Ks fs a (wr 31 i v b) := by
  simp only [Bool.and_eq_true, decide_eq_true_eq, List.contains_iff_mem] at h1
  refine ⟨fun K' j l1 l2 l3 => ?_, fun k l1 l2 => ?_⟩
  · rw [rd_k (by simp only [kne, Bool.and_eq_true, decide_eq_true_eq]; omega)]
    exact x.1 K' j l1 l2 l3
  · have hne : k ≠ i := fun z => l2 (by rw [z]; exact h1.2)
    rw [rd_ne l1 h1.1 hne]
    exact x.2 k l1 l2
theorem Fq.k {Ks : List Nat} {fs : List Int} {a b : Hp} (x : Fq Ks fs a b) (K : Nat) (i : Int) (h : (decide (32 ≤ K) && decide (K < 93) && !Ks.contains K) = true) : rd K i b = rd K i a := by
  simp only [Bool.and_eq_true, decide_eq_true_eq, Bool.not_eq_true', List.contains_eq_mem, decide_eq_false_iff_not] at h
  exact x.1 K i h.1.1 h.1.2 h.2
theorem Fq.f {Ks : List Nat} {fs : List Int} {a b : Hp} (x : Fq Ks fs a b) (k : Int) (h : (decide (0 ≤ k) && !fs.contains k) = true) : rd 31 k b = rd 31 k a := by
  simp only [Bool.and_eq_true, decide_eq_true_eq, Bool.not_eq_true', List.contains_eq_mem, decide_eq_false_iff_not] at h
  exact x.2 k h.1 h.2
def S5 (f : Int → Int) : Int := f 0 + f 1 + f 2 + f 3 + f 4
theorem S5_upd {f g : Int → Int} {c : Int} (hc : 0 ≤ c ∧ c ≤ 4) (h : ∀ i, i ≠ c → g i = f i) : S5 g = S5 f - f c + g c := by
  unfold S5
  have : c = 0 ∨ c = 1 ∨ c = 2 ∨ c = 3 ∨ c = 4 := by omega
  rcases this with rfl | rfl | rfl | rfl | rfl
  · rw [h 1 (by omega), h 2 (by omega), h 3 (by omega), h 4 (by omega)]; omega
  · rw [h 0 (by omega), h 2 (by omega), h 3 (by omega), h 4 (by omega)]; omega
  · rw [h 0 (by omega), h 1 (by omega), h 3 (by omega), h 4 (by omega)]; omega
  · rw [h 0 (by omega), h 1 (by omega), h 2 (by omega), h 4 (by omega)]; omega
  · rw [h 0 (by omega), h 1 (by omega), h 2 (by omega), h 3 (by omega)]; omega
theorem S5_le {f : Int → Int} {B : Int} (h : ∀ i, 0 ≤ i → i ≤ 4 → f i ≤ B) : S5 f ≤ 5 * B := by
  unfold S5
  have := h 0 (by omega) (by omega)
  have := h 1 (by omega) (by omega)
  have := h 2 (by omega) (by omega)
  have := h 3 (by omega) (by omega)
  have := h 4 (by omega) (by omega)
  omega
theorem S5_le1 {f : Int → Int} {B b c : Int} (hc : 0 ≤ c ∧ c ≤ 4) (h : ∀ i, 0 ≤ i → i ≤ 4 → f i ≤ B) (hb : f c ≤ b) : S5 f ≤ 4 * B + b := by
  unfold S5
  have h0 := h 0 (by omega) (by omega)
  have h1 := h 1 (by omega) (by omega)
  have h2 := h 2 (by omega) (by omega)
  have h3 := h 3 (by omega) (by omega)
  have h4 := h 4 (by omega) (by omega)
  have : c = 0 ∨ c = 1 ∨ c = 2 ∨ c = 3 ∨ c = 4 := by omega
  rcases this with rfl | rfl | rfl | rfl | rfl <;> omega
