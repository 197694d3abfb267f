/-! methods by hand -/
theorem hs_getI {r ci k nx pc : Nat} {ls : List (Option Value)} {st : List Value} {h : Hp} (hl : r < fl_tot ∧ fl_lay r = (ci, (fl_N[ci]?).getD 0)) (hk : fl_kind ci k = 0 ∨ fl_kind ci k = 1) : fl_step (9, [(ci : Int), (k : Int)], nx) (pc, ls, .ref r :: st, h, fl_tot) = some (.inl (nx, ls, .int (h.1 r k) :: st, h, fl_tot)) := by
  simp only [fl_step, Int.toNat_natCast]
  rw [if_pos hl]
  rcases hk with hk | hk <;> rw [hk] <;> rfl
theorem hs_getR {r ci k nx pc : Nat} {ls : List (Option Value)} {st : List Value} {h : Hp} (hl : r < fl_tot ∧ fl_lay r = (ci, (fl_N[ci]?).getD 0)) (hk : fl_kind ci k = 2) : fl_step (9, [(ci : Int), (k : Int)], nx) (pc, ls, .ref r :: st, h, fl_tot) = some (.inl (nx, ls, fl_rv (h.2 r k) :: st, h, fl_tot)) := by
  simp only [fl_step, Int.toNat_natCast]
  rw [if_pos hl, hk]
  rfl
theorem hs_if {o t : Int} {nx pc : Nat} {ls : List (Option Value)} {st : List Value} {h : Hp} {x : Int32} {b : Bool} (hb : fl_cmp o x 0 = some b) : fl_step (6, [o, t], nx) (pc, ls, .int x :: st, h, fl_tot) = some (.inl (if b then t.toNat else nx, ls, st, h, fl_tot)) := by
  simp only [fl_step, hb]
theorem hs_ifc {o t : Int} {nx pc : Nat} {ls : List (Option Value)} {st : List Value} {h : Hp} {x y : Int32} {b : Bool} (hb : fl_cmp o x y = some b) : fl_step (7, [o, t], nx) (pc, ls, .int y :: .int x :: st, h, fl_tot) = some (.inl (if b then t.toNat else nx, ls, st, h, fl_tot)) := by
  simp only [fl_step, hb]
theorem cd38_0 : fl_code 38 0 = some (2, [0, 2], 1) := by decide +kernel
theorem cd38_1 : fl_code 38 1 = some (9, [0, 9], 4) := by decide +kernel
theorem cd38_4 : fl_code 38 4 = some (6, [2, 31], 7) := by decide +kernel
theorem cd38_7 : fl_code 38 7 = some (2, [0, 2], 8) := by decide +kernel
theorem cd38_8 : fl_code 38 8 = some (9, [0, 9], 11) := by decide +kernel
theorem cd38_11 : fl_code 38 11 = some (2, [0, 2], 12) := by decide +kernel
theorem cd38_12 : fl_code 38 12 = some (9, [0, 7], 15) := by decide +kernel
theorem cd38_15 : fl_code 38 15 = some (17, [], 16) := by decide +kernel
theorem cd38_16 : fl_code 38 16 = some (7, [3, 31], 19) := by decide +kernel
theorem cd38_19 : fl_code 38 19 = some (2, [0, 2], 20) := by decide +kernel
theorem cd38_20 : fl_code 38 20 = some (9, [0, 7], 23) := by decide +kernel
theorem cd38_23 : fl_code 38 23 = some (2, [0, 2], 24) := by decide +kernel
theorem cd38_24 : fl_code 38 24 = some (9, [0, 9], 27) := by decide +kernel
theorem cd38_27 : fl_code 38 27 = some (11, [], 28) := by decide +kernel
theorem cd38_28 : fl_code 38 28 = some (8, [32], 31) := by decide +kernel
theorem cd38_31 : fl_code 38 31 = some (1, [-1], 32) := by decide +kernel
theorem cd38_32 : fl_code 38 32 = some (22, [0], 33) := by decide +kernel
theorem cv_nextStep : CV (38, 0, [(2, 18, 0)], (1, -2147483648, 2147483647), [], [], []) := by
  intro as h hT ha _
  obtain ⟨v, w, rfl, hv, hw⟩ := ha
  have : w = [] := hw
  subst this
  obtain ⟨r, rfl, hr⟩ := hv
  have hr : ab_kd r = 18 := hr
  have hK : ∃ tys, ab_K[ab_kd r]? = some (0, 19, tys) ∧ tys[7]? = some (2, 0, 0) := by rw [hr]; exact ⟨_, rfl, rfl⟩
  obtain ⟨tys, hK, h7⟩ := hK
  have hl := ab_kdK (by omega) hK
  have hlay : r < fl_tot ∧ fl_lay r = (0, (fl_N[0]?).getD 0) := ⟨hl.1, hl.2⟩
  obtain ⟨b, hb, hb0⟩ : ∃ b, h.2 r 7 = some b ∧ ab_kd b = 0 := hT r 0 19 tys 7 (2, 0, 0) (by omega) hK (by omega) (by rw [if_pos (by omega)]; exact h7)
  obtain ⟨b1, b2⟩ := ab_kd0 hb0
  refine ⟨_, rfl, (show 1 ≤ 1 from Nat.le_refl 1), ?_⟩
  have fin : ∀ (x : Int32) (e : Ev 0 38 (0, [some (.ref r)], [], h, fl_tot) (some (.int x), h, fl_tot)), Gd (38, 0, [(2, 18, 0)], (1, -2147483648, 2147483647), [], [], []) [.ref r] h 0 [some (.ref r)] [] h := by
    intro x e
    refine ⟨_, h, e, hT, ?_, Fr.rfl', fun _ p hp => by cases hp⟩
    unfold retOK
    rw [if_neg (by decide)]
    exact ⟨_, rfl, x, rfl, i_rng x⟩
  generalize hP : h.1 r 9 = P at *
  have bad : Ev 0 38 (31, [some (.ref r)], [], h, fl_tot) (some (.int (-1)), h, fl_tot) :=
    Ev.step cd38_31 rfl (Ev.ret cd38_32 rfl)
  have ld : ∀ {pc nx : Nat} {st : List Value} {x : Option Value × Hp × Nat}, fl_code 38 pc = some (2, [0, 2], nx) → Ev 0 38 (nx, [some (.ref r)], .ref r :: st, h, fl_tot) x → Ev 0 38 (pc, [some (.ref r)], st, h, fl_tot) x := fun hc e => Ev.step hc rfl e
  have gp : ∀ {pc nx : Nat} {st : List Value} {x : Option Value × Hp × Nat}, fl_code 38 pc = some (9, [0, 9], nx) → Ev 0 38 (nx, [some (.ref r)], .int P :: st, h, fl_tot) x → Ev 0 38 (pc, [some (.ref r)], .ref r :: st, h, fl_tot) x := fun hc e => Ev.step hc (hs_getI (ci := 0) (k := 9) hlay (Or.inl (by decide +kernel))) (by rw [hP]; exact e)
  have gs7 : ∀ {pc nx : Nat} {st : List Value} {x : Option Value × Hp × Nat}, fl_code 38 pc = some (9, [0, 7], nx) → Ev 0 38 (nx, [some (.ref r)], .ref b :: st, h, fl_tot) x → Ev 0 38 (pc, [some (.ref r)], .ref r :: st, h, fl_tot) x := fun hc e => Ev.step hc (hs_getR (ci := 0) (k := 7) hlay (by decide +kernel)) (by rw [hb]; exact e)
  have pre : ∀ {x : Option Value × Hp × Nat}, Ev 0 38 (if decide (P < 0) then 31 else 7, [some (.ref r)], [], h, fl_tot) x → Ev 0 38 (0, [some (.ref r)], [], h, fl_tot) x := fun e => ld cd38_0 (gp cd38_1 (Ev.step cd38_4 (hs_if (b := decide (P < 0)) rfl) e))
  by_cases hneg : P < 0
  · exact fin _ (pre (by rw [decide_eq_true hneg]; exact bad))
  · rw [decide_eq_false hneg] at pre
    have mid : ∀ {x : Option Value × Hp × Nat}, Ev 0 38 (if decide (Int32.ofNat (fl_len h b) ≤ P) then 31 else 19, [some (.ref r)], [], h, fl_tot) x → Ev 0 38 (7, [some (.ref r)], [], h, fl_tot) x := fun e =>
      ld cd38_7 (gp cd38_8 (ld cd38_11 (gs7 cd38_12 (Ev.step cd38_15 (by simp only [fl_step]; exact if_pos (Or.inr ⟨b1, Nat.le_trans (Nat.le_of_lt b2) (by decide)⟩)) (Ev.step cd38_16 (hs_ifc (o := 3) (t := 31) (nx := 19) (pc := 16) (ls := [some (.ref r)]) (st := []) (h := h) (x := P) (y := Int32.ofNat (fl_len h b)) (b := decide (Int32.ofNat (fl_len h b) ≤ P)) rfl) e)))))
    by_cases hlen : Int32.ofNat (fl_len h b) ≤ P
    · exact fin _ (pre (mid (by rw [decide_eq_true hlen]; exact bad)))
    · rw [decide_eq_false hlen] at mid
      have e1 : fl_len h b = ((fl_st[b - 1000]?).getD []).length := by
        unfold fl_len
        rw [if_neg (by omega), if_neg (by omega)]
      have e2 := st_lens (b - 1000) (by omega)
      have e3 : (Int32.ofNat (fl_len h b)).toInt = (fl_len h b : Int) := Int32.toInt_ofNat_of_lt (by omega)
      have e4 : P.toInt < (fl_len h b : Int) := by
        have := Int32.not_le.mp hlen
        have := Int32.lt_iff_toInt_lt.mp this
        omega
      have e5 : 0 ≤ P.toInt := by
        have := Int32.le_iff_toInt_le.mp (Int32.not_lt.mp hneg)
        rw [Int32.toInt_zero] at this
        exact this
      have e6 := (n_of e5 e4).1
      exact fin (h.1 b P.toNatClampNeg) (pre (mid (ld cd38_19 (gs7 cd38_20 (ld cd38_23 (gp cd38_24 (Ev.step cd38_27 (by
        simp only [fl_step]
        refine if_pos ?_
        rw [Bool.and_eq_true]
        refine ⟨?_, e6⟩
        unfold fl_isI
        rw [if_neg (by omega)]
        exact decide_eq_true (by omega)) (Ev.step cd38_28 rfl (Ev.ret cd38_32 rfl)))))))))
