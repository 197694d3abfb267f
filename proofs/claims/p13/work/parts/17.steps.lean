/-! the other steps -/
section ABS
variable {mods : List Nat} {a : List Int} {nx pc : Nat} {ls st : List AV} {env : List (Int × Int)} {ca : List (Nat × Nat × Nat × AV)} {l : List (Nat × AS)} {rho : List Int} {cls : List (Option Value)} {cst : List Value} {h : Hp}
theorem gc_setI {r i : Nat} {x : Int32} (hne : ∀ e ∈ ca, ∀ r', rho[e.1]? = some ((r' : Nat) : Int) → ab_kd r' = e.2.1 → (fl_lay r').1 < 20 → ¬ (r' = r ∧ e.2.2.1 = i)) (g : gc rho h ca) : gc rho (fl_setI h r i x) ca := fun e he => by
  obtain ⟨r', h1, h2, h4, h3⟩ := g e he
  refine ⟨r', h1, h2, h4, ?_⟩
  have e1 : ab_cv (fl_setI h r i x) r' e.2.2.1 e.2.2.2 = ab_cv h r' e.2.2.1 e.2.2.2 := by
    unfold ab_cv
    have : (fl_setI h r i x).1 r' e.2.2.1 = h.1 r' e.2.2.1 := by
      simp only [fl_setI]
      rw [if_neg (hne e he r' h1 h2 h4)]
    rw [this]
    rfl
  rw [e1]
  exact h3
theorem gc_setR {r i : Nat} {x : Option Nat} (hne : ∀ e ∈ ca, ∀ r', rho[e.1]? = some ((r' : Nat) : Int) → ab_kd r' = e.2.1 → (fl_lay r').1 < 20 → ¬ (r' = r ∧ e.2.2.1 = i)) (g : gc rho h ca) : gc rho (fl_setR h r i x) ca := fun e he => by
  obtain ⟨r', h1, h2, h4, h3⟩ := g e he
  refine ⟨r', h1, h2, h4, ?_⟩
  have e1 : ab_cv (fl_setR h r i x) r' e.2.2.1 e.2.2.2 = ab_cv h r' e.2.2.1 e.2.2.2 := by
    unfold ab_cv
    have : (fl_setR h r i x).2 r' e.2.2.1 = h.2 r' e.2.2.1 := by
      simp only [fl_setR]
      rw [if_neg (hne e he r' h1 h2 h4)]
    rw [this]
    rfl
  rw [e1]
  exact h3
theorem tag_int {x : AV} {y : Int32} (h1 : ab_one x = true) (h : gv rho x (.int y)) : x.1 = 1 := by
  simp only [ab_one, Bool.or_eq_true, beq_iff_eq] at h1
  unfold gv at h
  rcases h1 with ((h1 | h1) | h1) | h1
  · exact h1
  · rw [h1] at h; obtain ⟨_, _, q, _⟩ := h; cases q
  · rw [h1] at h; cases h
  · rw [h1] at h
    obtain ⟨_, _, q⟩ := h
    rcases q with ⟨_, q⟩ | ⟨_, _, q, _⟩ <;> cases q
theorem val_int {t : TY} {v : Value} (h1 : t.1 = 1) (hv : valOK t v) : ∃ y : Int32, v = .int y ∧ t.2.1 ≤ y.toInt ∧ y.toInt ≤ t.2.2 := by
  unfold valOK at hv
  rw [h1] at hv
  exact hv
theorem val_ref {t : TY} {v : Value} (h1 : t.1 = 2 ∨ t.1 = 4) (hv : valOK t v) : ∃ o, v = fl_rv o := by
  unfold valOK at hv
  rcases h1 with h1 | h1 <;> rw [h1] at hv
  · obtain ⟨r, rfl, -⟩ := hv; exact ⟨some r, rfl⟩
  · rcases hv with rfl | ⟨r, rfl, -⟩
    · exact ⟨none, rfl⟩
    · exact ⟨some r, rfl⟩
theorem as10 (hq : ab_step mods (10, a, nx) (ls, st, env, ca) = some l) (G : Gm rho (ls, st, env, ca) cls cst h) (hT : TInv h) : Res mods (10, a, nx) pc cls cst h l rho := by
  simp only [ab_step] at hq
  split at hq
  · rename_i ci k x v st
    obtain ⟨wx, cst0, rfl, hx, hst0⟩ := G.2.2.1
    obtain ⟨wv, cst1, rfl, hv, hst1⟩ := hst0
    split at hq
    · rename_i hv1
      obtain ⟨hv1, hmod⟩ := hv1
      obtain ⟨r, e1, rfl, e2⟩ := gv_ref hv1 hv
      rw [← e2] at hmod
      split at hq
      · rename_i code size tys hK
        split at hq
        · rename_i hc
          simp only [Bool.and_eq_true, beq_iff_eq, decide_eq_true_eq] at hc
          obtain ⟨⟨⟨k1, k2⟩, k3⟩, k4⟩ := hc
          split at hq
          · rename_i t ht
            split at hq
            · rename_i hfk
              cases hq
              simp only [Bool.and_eq_true] at hfk
              obtain ⟨⟨hf, hone⟩, htk⟩ := hfk
              rw [← e2] at hK k2
              obtain ⟨hr, hlay⟩ := ab_kdK k2 hK
              have hlay' : fl_lay r = (ci.toNat, (fl_N[ci.toNat]?).getD 0) := by rw [hlay, k1, k4]
              have hcode : code < 20 := by
                rcases fl_kinds2 r hr with z | z
                · rw [hlay] at z; omega
                · rw [hlay, k1] at z
                  have : ci.toNat < 11 := by
                    rcases Nat.lt_or_ge ci.toNat 11 with q | q
                    · exact q
                    · rw [show fl_N[ci.toNat]? = none from List.getElem?_eq_none (by simp [fl_N]; omega)] at k4
                      simp at k4
                      omega
                  simp only at z
                  omega
              have hval := fits_ok G.1 hf hx
              have htt : (if code < 20 then tys[k.toNat]? else tys[0]?) = some t := by rw [if_pos hcode]; exact ht
              have hne : ∀ e ∈ ca.filter (fun e => e.2.1 != v.2.2.toNat || e.2.2.1 != k.toNat), ∀ r', rho[e.1]? = some ((r' : Nat) : Int) → ab_kd r' = e.2.1 → (fl_lay r').1 < 20 → ¬ (r' = r ∧ e.2.2.1 = k.toNat) := by
                rintro e he r' q1 q2 - ⟨rfl, q3⟩
                have := (List.mem_filter.mp he).2
                rw [← q2, e2, q3] at this
                simp at this
              have gcf : gc rho h (ca.filter (fun e => e.2.1 != v.2.2.toNat || e.2.2.1 != k.toNat)) := fun e he => G.2.2.2 e (List.mem_filter.mp he).1
              simp only [Bool.or_eq_true, Bool.and_eq_true, beq_iff_eq, decide_eq_true_eq] at htk
              rcases htk with ⟨⟨h1, h2⟩, h3⟩ | ⟨h1, h2⟩
              · obtain ⟨y, rfl, hy⟩ := val_int h1 hval
                have h01 : fl_kind ci.toNat k.toNat = 0 ∨ fl_kind ci.toNat k.toNat = 1 := by omega
                have hbit : fl_kind ci.toNat k.toNat = 1 → fl_bit y = true := by
                  intro z
                  have hb : 0 ≤ y.toInt ∧ y.toInt ≤ 1 := by
                    rcases h3 with h3 | h3 <;> omega
                  simp only [fl_bit, Bool.or_eq_true, decide_eq_true_eq]
                  rcases (by omega : y.toInt = 0 ∨ y.toInt = 1) with z | z
                  · exact Or.inl (i_eq.mpr z)
                  · exact Or.inr (i_eq.mpr z)
                refine ⟨(nx, cls, cst1, fl_setI h r k.toNat y, fl_tot), _, [], ?_, List.mem_cons_self, rfl, ?_, hT.setI k2 hK htt h1 hy, rfl, Fr.setI hmod⟩
                · rcases h01 with h01 | h01
                  · simp only [fl_step, if_pos (⟨hr, hlay'⟩ : _ ∧ _), h01]
                  · simp only [fl_step, if_pos (⟨hr, hlay'⟩ : _ ∧ _), h01, if_pos (hbit h01)]
                · rw [nil_app]
                  refine ⟨G.1, G.2.1, hst1, fun e he => ?_⟩
                  rcases List.mem_append.mp he with he | he
                  · split at he
                    · cases he
                    · rw [List.mem_singleton] at he
                      subst he
                      refine ⟨r, e1, e2, by rw [hlay]; exact hcode, ?_⟩
                      show gv rho x (ab_cv (fl_setI h r k.toNat y) r k.toNat x)
                      have hx1 : x.1 = 1 := tag_int hone hx
                      unfold ab_cv
                      rw [if_pos hx1]
                      simp only [fl_setI, and_self, if_true]
                      exact hx
                  · exact gc_setI hne gcf e he
              · obtain ⟨o, rfl⟩ := val_ref h1 hval
                refine ⟨(nx, cls, cst1, fl_setR h r k.toNat o, fl_tot), _, [], ?_, List.mem_cons_self, rfl, ?_, hT.setR k2 hK htt h1 hval, rfl, Fr.setR hmod⟩
                · cases o <;> simp only [fl_step, fl_rv, if_pos (⟨hr, hlay'⟩ : _ ∧ _), h2]
                · rw [nil_app]
                  refine ⟨G.1, G.2.1, hst1, fun e he => ?_⟩
                  rcases List.mem_append.mp he with he | he
                  · split at he
                    · cases he
                    · rw [List.mem_singleton] at he
                      subst he
                      refine ⟨r, e1, e2, by rw [hlay]; exact hcode, ?_⟩
                      show gv rho x (ab_cv (fl_setR h r k.toNat o) r k.toNat x)
                      have hx1 : x.1 ≠ 1 := by
                        intro z
                        obtain ⟨_, _, _, q, _⟩ := gv_int z hx
                        cases o <;> cases q
                      unfold ab_cv
                      rw [if_neg hx1]
                      simp only [fl_setR, and_self, if_true]
                      exact hx
                  · exact gc_setR hne gcf e he
            · cases hq
          · cases hq
        · cases hq
      · cases hq
    · cases hq
  · cases hq
end ABS
