/-! THE CHECKER IS RIGHT: what its values mean -/
theorem i_bm {z : Int} (h1 : -2147483648 ≤ z) (h2 : z ≤ 2147483647) : z.bmod (2 ^ 32) = z := by
  unfold Int.bmod
  simp only
  split <;> omega
theorem i_rng (x : Int32) : -2147483648 ≤ x.toInt ∧ x.toInt ≤ 2147483647 := by
  have h1 := x.le_toInt
  have h2 := x.toInt_lt
  omega
theorem lim_of {lo hi : Int} (h : ab_lim lo hi = true) : -2147483648 ≤ lo ∧ hi ≤ 2147483647 := by
  simpa [ab_lim] using h
theorem i_and {x y : Int32} (h : 0 ≤ y.toInt) : 0 ≤ (x &&& y).toInt ∧ (x &&& y).toInt ≤ y.toInt := by
  have hy : y.toBitVec.msb = false := by
    rw [BitVec.msb_eq_toInt]
    simp only [decide_eq_false_iff_not, Int.not_lt]
    exact h
  have hz : (x.toBitVec &&& y.toBitVec).msb = false := by rw [BitVec.msb_and, hy, Bool.and_false]
  have e1 : (x &&& y).toInt = ((x.toBitVec &&& y.toBitVec).toNat : Int) := BitVec.toInt_eq_toNat_of_msb hz
  have e2 : y.toInt = (y.toBitVec.toNat : Int) := BitVec.toInt_eq_toNat_of_msb hy
  rw [e1, e2, BitVec.toNat_and]
  have := Nat.and_le_right (n := x.toBitVec.toNat) (m := y.toBitVec.toNat)
  omega
theorem i_andl {x y : Int32} (h : 0 ≤ x.toInt) : 0 ≤ (x &&& y).toInt ∧ (x &&& y).toInt ≤ x.toInt := by
  have e : x &&& y = y &&& x := by
    apply Int32.toBitVec_inj.mp
    simp [BitVec.and_comm]
  rw [e]
  exact i_and h
theorem bin_ok {o : Int} {x y : Int32} {bx by' b : Int × Int} (hx : bx.1 ≤ x.toInt ∧ x.toInt ≤ bx.2) (hy : by'.1 ≤ y.toInt ∧ y.toInt ≤ by'.2) (h : ab_bin o bx by' = some b) : ∃ z, fl_bin o x y = some z ∧ b.1 ≤ z.toInt ∧ z.toInt ≤ b.2 := by
  have full : ∀ z : Int32, fl_bin o x y = some z → b = ab_full → ∃ z, fl_bin o x y = some z ∧ b.1 ≤ z.toInt ∧ z.toInt ≤ b.2 := by
    intro z hz hb
    subst hb
    exact ⟨z, hz, (i_rng z).1, (i_rng z).2⟩
  unfold ab_bin at h
  split at h
  · split at h
    · rename_i hl
      cases h
      have := lim_of hl
      refine ⟨x + y, rfl, ?_⟩
      rw [Int32.toInt_add, i_bm (by omega) (by omega)]
      simp only
      omega
    · exact full _ rfl (Option.some.inj h).symm
  · split at h
    · rename_i hl
      cases h
      have := lim_of hl
      refine ⟨x - y, rfl, ?_⟩
      rw [Int32.toInt_sub, i_bm (by omega) (by omega)]
      simp only
      omega
    · exact full _ rfl (Option.some.inj h).symm
  · split at h
    · rename_i hl
      cases h
      refine ⟨x * y, rfl, ?_⟩
      have h1 : 0 ≤ x.toInt * y.toInt := Int.mul_nonneg (by omega) (by omega)
      have h2 : x.toInt * y.toInt ≤ bx.2 * by'.2 := Int.mul_le_mul hx.2 hy.2 (by omega) (by omega)
      rw [Int32.toInt_mul, i_bm (by omega) (by omega)]
      exact ⟨h1, h2⟩
    · exact full _ rfl (Option.some.inj h).symm
  · have hne : ∀ (k : y.toInt ≠ 0), ¬ y = 0 := by
      intro k z
      rw [z] at k
      exact k (by decide)
    split at h
    · rename_i hl
      cases h
      refine ⟨x / y, if_neg (hne (by omega)), ?_⟩
      have h1 : x.toInt.tdiv y.toInt = x.toInt / y.toInt := Int.tdiv_eq_ediv_of_nonneg (by omega)
      have h2 : x.toInt / y.toInt ≤ x.toInt := Int.ediv_le_self _ (by omega)
      have h3 : 0 ≤ x.toInt / y.toInt := Int.ediv_nonneg (by omega) (by omega)
      have h4 := i_rng x
      rw [Int32.toInt_div, h1, i_bm (by omega) (by omega)]
      simp only
      omega
    · split at h
      · exact full _ (if_neg (hne (by omega))) (Option.some.inj h).symm
      · cases h
  · have hne : ∀ (k : y.toInt ≠ 0), ¬ y = 0 := by
      intro k z
      rw [z] at k
      exact k (by decide)
    split at h
    · rename_i hl
      cases h
      refine ⟨x - x / y * y, if_neg (hne (by omega)), ?_⟩
      have h1 : x.toInt.tdiv y.toInt = x.toInt / y.toInt := Int.tdiv_eq_ediv_of_nonneg (by omega)
      have h2 : x.toInt / y.toInt ≤ x.toInt := Int.ediv_le_self _ (by omega)
      have h3 : 0 ≤ x.toInt / y.toInt := Int.ediv_nonneg (by omega) (by omega)
      have h4 := i_rng x
      have h5 := Int.mul_ediv_add_emod x.toInt y.toInt
      have h6 := Int.emod_nonneg x.toInt (show y.toInt ≠ 0 by omega)
      have h7 := Int.emod_lt_of_pos x.toInt (show 0 < y.toInt by omega)
      have h8 : 0 ≤ x.toInt / y.toInt * y.toInt := Int.mul_nonneg h3 (by omega)
      have h9 : y.toInt * (x.toInt / y.toInt) = x.toInt / y.toInt * y.toInt := Int.mul_comm _ _
      have e1 : (x / y).toInt = x.toInt / y.toInt := by rw [Int32.toInt_div, h1, i_bm (by omega) (by omega)]
      have e2 : (x / y * y).toInt = x.toInt / y.toInt * y.toInt := by rw [Int32.toInt_mul, e1, i_bm (by omega) (by omega)]
      rw [Int32.toInt_sub, e2, i_bm (by omega) (by omega)]
      simp only [ab_min]
      split <;> omega
    · split at h
      · exact full _ (if_neg (hne (by omega))) (Option.some.inj h).symm
      · cases h
  · exact full _ rfl (Option.some.inj h).symm
  · exact full _ rfl (Option.some.inj h).symm
  · exact full _ rfl (Option.some.inj h).symm
  · split at h
    · rename_i hl
      cases h
      have := i_and (x := x) (y := y) (by omega)
      exact ⟨x &&& y, rfl, this.1, by simp only; omega⟩
    · split at h
      · cases h
        have := i_andl (x := x) (y := y) (by omega)
        exact ⟨x &&& y, rfl, this.1, by simp only; omega⟩
      · exact full _ rfl (Option.some.inj h).symm
  · exact full _ rfl (Option.some.inj h).symm
  · exact full _ rfl (Option.some.inj h).symm
  · cases h
theorem i_eq {x y : Int32} : x = y ↔ x.toInt = y.toInt := ⟨fun h => by rw [h], fun h => Int32.toInt_inj.mp h⟩
/-- a comparison that holds narrows both sides -/
theorem cmp_ok {o : Int} {x y : Int32} {bx by' : Int × Int} (hx : bx.1 ≤ x.toInt ∧ x.toInt ≤ bx.2) (hy : by'.1 ≤ y.toInt ∧ y.toInt ≤ by'.2) (ht : fl_cmp o x y = some true) : ∃ r, ab_cmp o bx by' = some r ∧ (r.1.1 ≤ x.toInt ∧ x.toInt ≤ r.1.2) ∧ (r.2.1 ≤ y.toInt ∧ y.toInt ≤ r.2.2) := by
  have key : ∀ r : (Int × Int) × (Int × Int), (r.1.1 ≤ x.toInt ∧ x.toInt ≤ r.1.2) → (r.2.1 ≤ y.toInt ∧ y.toInt ≤ r.2.2) → (if r.1.2 < r.1.1 ∨ r.2.2 < r.2.1 then none else some r) = some r := by
    intro r h1 h2
    rw [if_neg (by omega)]
  unfold fl_cmp at ht
  split at ht
  · have h := of_decide_eq_true (Option.some.inj ht)
    have h' : x.toInt = y.toInt := by rw [h]
    refine ⟨_, key _ ?_ ?_, ?_, ?_⟩ <;> (simp only [ab_max, ab_min]; constructor <;> split <;> omega)
  · have h := of_decide_eq_true (Option.some.inj ht)
    have h' : x.toInt ≠ y.toInt := fun z => h (i_eq.mpr z)
    unfold ab_cmp
    simp only
    split
    · refine ⟨_, key _ ?_ ?_, ?_, ?_⟩
      · simp only; constructor <;> split <;> omega
      · exact hy
      · simp only; constructor <;> split <;> omega
      · exact hy
    · exact ⟨_, key (bx, by') hx hy, hx, hy⟩
  · have h := of_decide_eq_true (Option.some.inj ht)
    have h' := Int32.lt_iff_toInt_lt.mp h
    refine ⟨_, key _ ?_ ?_, ?_, ?_⟩ <;> (simp only [ab_max, ab_min]; constructor <;> (try split) <;> omega)
  · have h := of_decide_eq_true (Option.some.inj ht)
    have h' := Int32.le_iff_toInt_le.mp h
    refine ⟨_, key _ ?_ ?_, ?_, ?_⟩ <;> (simp only [ab_max, ab_min]; constructor <;> (try split) <;> omega)
  · have h := of_decide_eq_true (Option.some.inj ht)
    have h' := Int32.lt_iff_toInt_lt.mp h
    refine ⟨_, key _ ?_ ?_, ?_, ?_⟩ <;> (simp only [ab_max, ab_min]; constructor <;> (try split) <;> omega)
  · have h := of_decide_eq_true (Option.some.inj ht)
    have h' := Int32.le_iff_toInt_le.mp h
    refine ⟨_, key _ ?_ ?_, ?_, ?_⟩ <;> (simp only [ab_max, ab_min]; constructor <;> (try split) <;> omega)
  · cases ht
theorem cmp_neg {o : Int} {x y : Int32} (h0 : 0 ≤ o ∧ o ≤ 5) : (∃ b, fl_cmp o x y = some b) ∧ (fl_cmp o x y = some false → fl_cmp (ab_neg o) x y = some true) := by
  have : o = 0 ∨ o = 1 ∨ o = 2 ∨ o = 3 ∨ o = 4 ∨ o = 5 := by omega
  have nle : ∀ a b : Int32, ¬ a ≤ b ↔ b < a := fun a b => Int32.not_le
  have nlt : ∀ a b : Int32, ¬ a < b ↔ b ≤ a := fun a b => Int32.not_lt
  rcases this with rfl | rfl | rfl | rfl | rfl | rfl
  · exact ⟨⟨_, rfl⟩, fun h => congrArg some (decide_eq_true (of_decide_eq_false (Option.some.inj h)))⟩
  · exact ⟨⟨_, rfl⟩, fun h => congrArg some (decide_eq_true (Classical.not_not.mp (of_decide_eq_false (Option.some.inj h))))⟩
  · exact ⟨⟨_, rfl⟩, fun h => congrArg some (decide_eq_true ((nlt _ _).mp (of_decide_eq_false (Option.some.inj h))))⟩
  · exact ⟨⟨_, rfl⟩, fun h => congrArg some (decide_eq_true ((nle _ _).mp (of_decide_eq_false (Option.some.inj h))))⟩
  · exact ⟨⟨_, rfl⟩, fun h => congrArg some (decide_eq_true ((nlt _ _).mp (of_decide_eq_false (Option.some.inj h))))⟩
  · exact ⟨⟨_, rfl⟩, fun h => congrArg some (decide_eq_true ((nle _ _).mp (of_decide_eq_false (Option.some.inj h))))⟩
/-- what a value of the checker says of a value; rho: the numbers behind the names (a reference: its cell, null: -1) -/
def gv (rho : List Int) (a : AV) (v : Value) : Prop := match a.1 with
  | 1 => ∃ (x : Int) (y : Int32), rho[a.2.1]? = some x ∧ v = .int y ∧ y.toInt = x + a.2.2
  | 2 => ∃ r : Nat, rho[a.2.1]? = some (r : Int) ∧ v = .ref r ∧ ab_kd r = a.2.2.toNat
  | 3 => v = .null
  | 4 => ∃ x : Int, rho[a.2.1]? = some x ∧ ((x = -1 ∧ v = .null) ∨ ∃ r : Nat, x = (r : Int) ∧ v = .ref r ∧ ab_kd r = a.2.2.toNat)
  | 5 => ∃ x : Int64, v = .long x
  | _ => v.category = 1
def ga (rho : List Int) (env : List (Int × Int)) : Prop := rho.length = env.length ∧ ∀ (i : Nat) (b : Int × Int), env[i]? = some b → ∃ x, rho[i]? = some x ∧ (b.2 < b.1 ∨ (b.1 ≤ x ∧ x ≤ b.2))
def gs (rho : List Int) : List AV → List Value → Prop
  | [], vs => vs = []
  | a :: s, vs => ∃ v t, vs = v :: t ∧ gv rho a v ∧ gs rho s t
def gl (rho : List Int) (avs : List AV) (ls : List (Option Value)) : Prop := avs.length = ls.length ∧ ∀ (i : Nat) (a : AV), avs[i]? = some a → (a.1 = 0 → ∀ v, ls[i]? = some (some v) → v.category = 1) ∧ (a.1 ≠ 0 → ∃ v, ls[i]? = some (some v) ∧ gv rho a v)
def ab_cv (h : Hp) (r k : Nat) (a : AV) : Value := if a.1 = 1 then .int (h.1 r k) else fl_rv (h.2 r k)
def gc (rho : List Int) (h : Hp) (ca : List (Nat × Nat × Nat × AV)) : Prop := ∀ e ∈ ca, ∃ r : Nat, rho[e.1]? = some (r : Int) ∧ ab_kd r = e.2.1 ∧ (fl_lay r).1 < 20 ∧ gv rho e.2.2.2 (ab_cv h r e.2.2.1 e.2.2.2)
def Gm (rho : List Int) (s : AS) (ls : List (Option Value)) (st : List Value) (h : Hp) : Prop := ga rho s.2.2.1 ∧ gl rho s.1 ls ∧ gs rho s.2.1 st ∧ gc rho h s.2.2.2
theorem get_ext {rho t : List Int} {i : Nat} {x : Int} (h : rho[i]? = some x) : (rho ++ t)[i]? = some x := by
  rw [List.getElem?_append_left (List.getElem?_eq_some_iff.mp h).1]
  exact h
theorem gv_ext {rho t : List Int} {a : AV} {v : Value} (h : gv rho a v) : gv (rho ++ t) a v := by
  unfold gv at h ⊢
  split at h
  · obtain ⟨x, y, h1, h2⟩ := h; exact ⟨x, y, get_ext h1, h2⟩
  · obtain ⟨r, h1, h2⟩ := h; exact ⟨r, get_ext h1, h2⟩
  · exact h
  · obtain ⟨x, h1, h2⟩ := h; exact ⟨x, get_ext h1, h2⟩
  · exact h
  · exact h
theorem gs_ext {rho t : List Int} : ∀ {s : List AV} {vs : List Value}, gs rho s vs → gs (rho ++ t) s vs
  | [], _, h => h
  | _ :: _, _, ⟨v, w, h1, h2, h3⟩ => ⟨v, w, h1, gv_ext h2, gs_ext h3⟩
theorem gl_ext {rho t : List Int} {avs : List AV} {ls : List (Option Value)} (h : gl rho avs ls) : gl (rho ++ t) avs ls := ⟨h.1, fun i a hi => ⟨(h.2 i a hi).1, fun z => by obtain ⟨v, h1, h2⟩ := (h.2 i a hi).2 z; exact ⟨v, h1, gv_ext h2⟩⟩⟩
theorem gc_ext {rho t : List Int} {h : Hp} {ca : List (Nat × Nat × Nat × AV)} (g : gc rho h ca) : gc (rho ++ t) h ca := fun e he => by
  obtain ⟨r, h1, h2, h4, h3⟩ := g e he
  exact ⟨r, get_ext h1, h2, h4, gv_ext h3⟩
theorem ga_push {rho : List Int} {env : List (Int × Int)} {x : Int} {b : Int × Int} (h : ga rho env) (hb : b.2 < b.1 ∨ (b.1 ≤ x ∧ x ≤ b.2)) : ga (rho ++ [x]) (env ++ [b]) := by
  refine ⟨by simp [h.1], fun i c hi => ?_⟩
  by_cases hlt : i < env.length
  · rw [List.getElem?_append_left hlt] at hi
    obtain ⟨y, h1, h2⟩ := h.2 i c hi
    exact ⟨y, get_ext h1, h2⟩
  · rw [List.getElem?_append_right (by omega)] at hi
    have h0 : i - env.length < 1 := by simpa using (List.getElem?_eq_some_iff.mp hi).1
    have hi0 : i = env.length := by omega
    subst hi0
    rw [Nat.sub_self] at hi
    cases hi
    exact ⟨x, by rw [List.getElem?_append_right (by rw [h.1]; exact Nat.le_refl _), h.1, Nat.sub_self]; rfl, hb⟩
theorem ga_last {rho : List Int} {env : List (Int × Int)} {x : Int} (h : ga rho env) : (rho ++ [x])[env.length]? = some x := by
  rw [List.getElem?_append_right (by rw [h.1]; exact Nat.le_refl _), h.1, Nat.sub_self]
  rfl
theorem ga_set {rho : List Int} {env : List (Int × Int)} {i : Nat} {x : Int} {b : Int × Int} (h : ga rho env) (hi : rho[i]? = some x) (hb : b.1 ≤ x ∧ x ≤ b.2) : ga rho (env.set i b) := by
  refine ⟨by simp [h.1], fun j c hj => ?_⟩
  by_cases e : j = i
  · subst e
    by_cases hlt : j < env.length
    · rw [List.getElem?_set_self hlt] at hj
      cases hj
      exact ⟨x, hi, Or.inr hb⟩
    · rw [List.getElem?_eq_none (by simpa using Nat.le_of_not_lt hlt)] at hj
      cases hj
  · rw [List.getElem?_set_ne (Ne.symm e)] at hj
    exact h.2 j c hj
theorem gv_int {rho : List Int} {a : AV} {v : Value} (h1 : a.1 = 1) (h : gv rho a v) : ∃ (x : Int) (y : Int32), rho[a.2.1]? = some x ∧ v = .int y ∧ y.toInt = x + a.2.2 := by
  unfold gv at h
  rw [h1] at h
  exact h
theorem gv_ref {rho : List Int} {a : AV} {v : Value} (h1 : a.1 = 2) (h : gv rho a v) : ∃ r : Nat, rho[a.2.1]? = some (r : Int) ∧ v = .ref r ∧ ab_kd r = a.2.2.toNat := by
  unfold gv at h
  rw [h1] at h
  exact h
theorem bnd_ok {rho : List Int} {env : List (Int × Int)} {a : AV} {v : Value} {b : Int × Int} (g : ga rho env) (h : gv rho a v) (hb : ab_bnd env a = some b) : ∃ (y : Int32), a.1 = 1 ∧ v = .int y ∧ (b.1 ≤ y.toInt ∧ y.toInt ≤ b.2) ∧ rho[a.2.1]? = some (y.toInt - a.2.2) := by
  unfold ab_bnd at hb
  split at hb
  · rename_i h1
    obtain ⟨x, y, e1, e2, e3⟩ := gv_int h1 h
    split at hb
    · rename_i c hc
      split at hb
      · cases hb
      · cases hb
        obtain ⟨x', z1, z2⟩ := g.2 _ _ hc
        cases e1.symm.trans z1
        exact ⟨y, h1, e2, by simp only; omega, by rw [e1]; congr 1; omega⟩
    · cases hb
  · cases hb
theorem gv_mk {rho : List Int} {i : Nat} {o : Int} {y : Int32} (h : rho[i]? = some (y.toInt - o)) : gv rho (1, i, o) (.int y) := ⟨_, y, h, rfl, by simp only; omega⟩
