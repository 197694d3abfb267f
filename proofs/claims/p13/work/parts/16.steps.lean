/-! the steps that read and write cells -/
theorem n_of {y : Int32} {n : Nat} (h0 : 0 ≤ y.toInt) (h1 : y.toInt < (n : Int)) : fl_in y n = true ∧ y.toNatClampNeg < n := by
  have h2 : y.toNatClampNeg = y.toInt.toNat := rfl
  have h3 : y.toNatClampNeg < n := by rw [h2]; omega
  refine ⟨?_, h3⟩
  simp only [fl_in, Bool.and_eq_true, decide_eq_true_eq]
  exact ⟨fun z => by have := Int32.lt_iff_toInt_lt.mp z; rw [Int32.toInt_zero] at this; omega, h3⟩
def valOK (t : TY) (v : Value) : Prop := match t.1 with
  | 1 => ∃ y : Int32, v = .int y ∧ t.2.1 ≤ y.toInt ∧ y.toInt ≤ t.2.2
  | 2 => ∃ r : Nat, v = .ref r ∧ ab_kd r = t.2.1.toNat
  | 4 => v = .null ∨ ∃ r : Nat, v = .ref r ∧ ab_kd r = t.2.1.toNat
  | 5 => ∃ x : Int64, v = .long x
  | _ => v.category = 1
section ABS
variable {mods : List Nat} {a : List Int} {nx pc : Nat} {ls st : List AV} {env : List (Int × Int)} {ca : List (Nat × Nat × Nat × AV)} {l : List (Nat × AS)} {rho : List Int} {cls : List (Option Value)} {cst : List Value} {h : Hp}
theorem put_ty {t : TY} {st' : List AV} {env' : List (Int × Int)} {v' : AV} {v : Value} (hp : ab_put env st t = some (st', env', v')) (g : ga rho env) (hs : gs rho st cst) (hv : valOK t v) : ∃ x, ga (rho ++ x) env' ∧ gs (rho ++ x) st' (v :: cst) ∧ gv (rho ++ x) v' v ∧ v'.1 = t.1 ∧ st' = v' :: st := by
  unfold ab_put at hp
  unfold valOK at hv
  split at hp
  · rename_i h1
    cases hp
    rw [h1] at hv
    obtain ⟨y, rfl, h2⟩ := hv
    have hg : gv (rho ++ [y.toInt]) (1, env.length, 0) (.int y) := gv_mk (by rw [ga_last g]; congr 1; omega)
    exact ⟨[y.toInt], ga_push g (Or.inr h2), gs_cons hg (gs_ext hs), hg, h1.symm, rfl⟩
  · rename_i h1
    cases hp
    rw [h1] at hv
    obtain ⟨r, rfl, h2⟩ := hv
    have hg : gv (rho ++ [(r : Int)]) (2, env.length, t.2.1) (.ref r) := ⟨r, ga_last g, rfl, h2⟩
    exact ⟨[(r : Int)], ga_push g (Or.inl (by decide)), gs_cons hg (gs_ext hs), hg, h1.symm, rfl⟩
  · rename_i h1
    cases hp
    rw [h1] at hv
    rcases hv with rfl | ⟨r, rfl, h2⟩
    · have hg : gv (rho ++ [-1]) (4, env.length, t.2.1) .null := ⟨-1, ga_last g, Or.inl ⟨rfl, rfl⟩⟩
      exact ⟨[-1], ga_push g (Or.inl (by decide)), gs_cons hg (gs_ext hs), hg, h1.symm, rfl⟩
    · have hg : gv (rho ++ [(r : Int)]) (4, env.length, t.2.1) (.ref r) := ⟨r, ga_last g, Or.inr ⟨r, rfl, rfl, h2⟩⟩
      exact ⟨[(r : Int)], ga_push g (Or.inl (by decide)), gs_cons hg (gs_ext hs), hg, h1.symm, rfl⟩
  · rename_i h1
    cases hp
    rw [h1] at hv
    obtain ⟨x, rfl⟩ := hv
    have hg : gv (rho ++ []) (5, 0, 0) (.long x) := ⟨x, rfl⟩
    exact ⟨[], by rw [nil_app]; exact g, gs_cons hg (by rw [nil_app]; exact hs), hg, h1.symm, rfl⟩
  · cases hp
/-- what a slot holds, of its type -/
theorem slot_int {t : TY} {r j : Nat} (h1 : t.1 = 1) (hs : slotOK h t r j) : valOK t (.int (h.1 r j)) := by
  unfold slotOK at hs
  rw [h1] at hs
  unfold valOK
  rw [h1]
  exact ⟨_, rfl, hs⟩
theorem slot_ref {t : TY} {r j : Nat} (h1 : t.1 = 2 ∨ t.1 = 4) (hs : slotOK h t r j) : valOK t (fl_rv (h.2 r j)) := by
  unfold slotOK at hs
  unfold valOK
  rcases h1 with h1 | h1 <;> rw [h1] at hs ⊢
  · obtain ⟨b, e1, e2⟩ := hs
    rw [e1]
    exact ⟨b, rfl, e2⟩
  · rcases hs with e1 | ⟨b, e1, e2⟩
    · rw [e1]; exact Or.inl rfl
    · rw [e1]; exact Or.inr ⟨b, rfl, e2⟩
theorem fits_ok {t : TY} {x : AV} {v : Value} (g : ga rho env) (hf : ab_fits env x t = true) (hv : gv rho x v) : valOK t v := by
  unfold ab_fits at hf
  unfold valOK
  split at hf
  · rename_i h1
    rw [h1]
    split at hf
    · rename_i b hb
      obtain ⟨y, -, rfl, k2, -⟩ := bnd_ok g hv hb
      simp only [Bool.and_eq_true, decide_eq_true_eq] at hf
      exact ⟨y, rfl, by omega, by omega⟩
    · cases hf
  · rename_i h1
    rw [h1]
    simp only [Bool.and_eq_true, beq_iff_eq] at hf
    obtain ⟨r, -, rfl, e⟩ := gv_ref hf.1 hv
    exact ⟨r, rfl, by rw [e, hf.2]⟩
  · rename_i h1
    rw [h1]
    simp only [Bool.or_eq_true, Bool.and_eq_true, beq_iff_eq] at hf
    rcases hf with hf | ⟨hf | hf, h2⟩
    · unfold gv at hv
      rw [hf] at hv
      exact Or.inl hv
    · obtain ⟨r, -, rfl, e⟩ := gv_ref hf hv
      exact Or.inr ⟨r, rfl, by rw [e, h2]⟩
    · unfold gv at hv
      rw [hf] at hv
      obtain ⟨y, -, hv⟩ := hv
      rcases hv with ⟨-, rfl⟩ | ⟨r, -, rfl, e⟩
      · exact Or.inl rfl
      · exact Or.inr ⟨r, rfl, by rw [e, h2]⟩
  · rename_i h1
    rw [h1]
    have h5 := eq_of_beq hf
    unfold gv at hv
    rw [h5] at hv
    exact hv
  · rename_i h1
    rw [h1]
    have h5 : x.1 ≠ 5 := by simpa using hf
    by_cases h9 : ab_one x = true
    · exact one_cat h9 hv
    · unfold gv at hv
      simp only [ab_one, Bool.or_eq_true, beq_iff_eq, not_or] at h9
      split at hv
      · rename_i z; exact absurd z h9.1.1.1
      · rename_i z; exact absurd z h9.1.1.2
      · rename_i z; exact absurd z h9.1.2
      · rename_i z; exact absurd z h9.2
      · rename_i z; exact absurd z h5
      · exact hv
  · cases hf
theorem range_ok {x : AV} {v : Value} {n : Nat} (g : ga rho env) (hf : ab_range env x n = true) (hv : gv rho x v) : ∃ y : Int32, v = .int y ∧ fl_in y n = true ∧ y.toNatClampNeg < n := by
  unfold ab_range at hf
  split at hf
  · rename_i b hb
    obtain ⟨y, -, rfl, k2, -⟩ := bnd_ok g hv hb
    simp only [Bool.and_eq_true, decide_eq_true_eq] at hf
    have := n_of (y := y) (n := n) (by omega) (by omega)
    exact ⟨y, rfl, this⟩
  · cases hf
/-- a cell of a kind: made, laid as planned -/
theorem as9 (hq : ab_step mods (9, a, nx) (ls, st, env, ca) = some l) (G : Gm rho (ls, st, env, ca) cls cst h) (hT : TInv h) : Res mods (9, a, nx) pc cls cst h l rho := by
  simp only [ab_step] at hq
  split at hq
  · rename_i ci k v st
    obtain ⟨wv, cst1, rfl, hv, hst1⟩ := G.2.2.1
    split at hq
    · rename_i hv1
      obtain ⟨r, e1, rfl, e2⟩ := gv_ref hv1 hv
      split at hq
      · rename_i e he
        split at hq
        · rename_i hc
          cases hq
          simp only [Bool.and_eq_true] at hc
          obtain ⟨⟨⟨hc1, hc2⟩, hc3⟩, hc4⟩ := hc
          unfold ab_obj at hc2
          split at hc2
          · rename_i code size tys hK
            simp only [Bool.and_eq_true, beq_iff_eq, decide_eq_true_eq] at hc2
            obtain ⟨⟨⟨⟨k1, k2⟩, k3⟩, k4⟩, k5⟩ := hc2
            rw [← e2] at hK k5
            obtain ⟨hr, hlay⟩ := ab_kdK k5 hK
            have hmem := List.mem_of_find?_eq_some he
            have hp := List.find?_some he
            simp only [Bool.and_eq_true, beq_iff_eq] at hp
            obtain ⟨r', z1, z2, -, z3⟩ := G.2.2.2 e hmem
            rw [hp.1] at z1
            have hlay' : fl_lay r = (ci.toNat, (fl_N[ci.toNat]?).getD 0) := by rw [hlay, k1, k3]
            have hrr : r' = r := by
              have := e1.symm.trans z1
              simp only [Option.some.injEq] at this
              omega
            subst hrr
            have hcv : ab_cv h r' e.2.2.1 e.2.2.2 = (if fl_kind ci.toNat k.toNat = 2 then fl_rv (h.2 r' k.toNat) else .int (h.1 r' k.toNat)) := by
              rw [hp.2]
              unfold ab_cv
              have hb : (fl_kind ci.toNat k.toNat = 2) ↔ (e.2.2.2.1 = 2 ∨ e.2.2.2.1 = 4) := by
                have q := eq_of_beq hc1
                constructor
                · intro z
                  rw [z] at q
                  have q2 : (e.2.2.2.1 == 2 || e.2.2.2.1 == 4) = true := q.symm
                  simpa only [Bool.or_eq_true, beq_iff_eq] using q2
                · intro z
                  have q2 : (e.2.2.2.1 == 2 || e.2.2.2.1 == 4) = true := by simpa only [Bool.or_eq_true, beq_iff_eq] using z
                  rw [q2] at q
                  exact eq_of_beq q
              by_cases h9 : fl_kind ci.toNat k.toNat = 2
              · rw [if_pos h9, if_neg (by have := hb.mp h9; omega)]
              · have hone := hc3
                simp only [ab_one, Bool.or_eq_true, beq_iff_eq] at hone
                have h3 : e.2.2.2.1 ≠ 3 := by simpa using hc4
                have : e.2.2.2.1 = 1 := by
                  have := fun z => h9 (hb.mpr z)
                  omega
                rw [if_neg h9, if_pos this]
            rw [hcv] at z3
            by_cases h9 : fl_kind ci.toNat k.toNat = 2
            · rw [if_pos h9] at z3
              refine res_pure (t := []) hT (by simp only [fl_step, if_pos (⟨hr, hlay'⟩ : _ ∧ _), h9] <;> rfl) List.mem_cons_self rfl ?_
              rw [nil_app]
              exact ⟨G.1, G.2.1, gs_cons z3 hst1, G.2.2.2⟩
            · rw [if_neg h9] at z3
              have h01 : fl_kind ci.toNat k.toNat = 0 ∨ fl_kind ci.toNat k.toNat = 1 := by omega
              refine res_pure (t := []) hT (by rcases h01 with h01 | h01 <;> simp only [fl_step, if_pos (⟨hr, hlay'⟩ : _ ∧ _), h01] <;> rfl) List.mem_cons_self rfl ?_
              rw [nil_app]
              exact ⟨G.1, G.2.1, gs_cons z3 hst1, G.2.2.2⟩
          · cases hc2
        · cases hq
      · split at hq
        · rename_i code size tys hK
          split at hq
          · rename_i hc
            simp only [Bool.and_eq_true, beq_iff_eq, decide_eq_true_eq] at hc
            obtain ⟨⟨⟨k1, k2⟩, k3⟩, k4⟩ := hc
            split at hq
            · rename_i t ht
              split at hq
              · rename_i htk
                split at hq
                · rename_i st' env' v' hput
                  cases hq
                  rw [← e2] at hK k2
                  obtain ⟨hr, hlay⟩ := ab_kdK k2 hK
                  have hlay' : fl_lay r = (ci.toNat, (fl_N[ci.toNat]?).getD 0) := by rw [hlay, k1, k4]
                  have hcode : code < 20 := by
                    rcases fl_kinds2 r hr with z | z
                    · rw [hlay] at z; omega
                    · rw [hlay, k1] at z
                      have : ci.toNat < 11 := by
                        rcases Nat.lt_or_ge ci.toNat 11 with q | q
                        · exact q
                        · rw [show fl_N[ci.toNat]? = none from List.getElem?_eq_none (by simp [fl_N]; omega)] at k4
                          simp at k4
                          omega
                      simp only at z
                      omega
                  have hslot := hT r code size tys k.toNat t k2 hK k3 (by rw [if_pos hcode]; exact ht)
                  simp only [Bool.or_eq_true, Bool.and_eq_true, beq_iff_eq, decide_eq_true_eq] at htk
                  rcases htk with ⟨h1, h2⟩ | ⟨h1, h2⟩
                  · obtain ⟨x, p1, p2, p3, p4, rfl⟩ := put_ty hput G.1 hst1 (slot_int h1 hslot)
                    have h01 : fl_kind ci.toNat k.toNat = 0 ∨ fl_kind ci.toNat k.toNat = 1 := by omega
                    refine res_pure (t := x) hT (by rcases h01 with h01 | h01 <;> simp only [fl_step, if_pos (⟨hr, hlay'⟩ : _ ∧ _), h01] <;> rfl) List.mem_cons_self rfl ?_
                    refine ⟨p1, gl_ext G.2.1, p2, fun e he => ?_⟩
                    rcases List.mem_cons.mp he with rfl | he
                    · refine ⟨r, get_ext e1, e2, by rw [hlay]; exact hcode, ?_⟩
                      show gv _ v' (ab_cv h r k.toNat v')
                      unfold ab_cv
                      rw [if_pos (p4.trans h1)]
                      exact p3
                    · exact gc_ext G.2.2.2 e he
                  · obtain ⟨x, p1, p2, p3, p4, rfl⟩ := put_ty hput G.1 hst1 (slot_ref h1 hslot)
                    refine res_pure (t := x) hT (by simp only [fl_step, if_pos (⟨hr, hlay'⟩ : _ ∧ _), h2] <;> rfl) List.mem_cons_self rfl ?_
                    refine ⟨p1, gl_ext G.2.1, p2, fun e he => ?_⟩
                    rcases List.mem_cons.mp he with rfl | he
                    · refine ⟨r, get_ext e1, e2, by rw [hlay]; exact hcode, ?_⟩
                      show gv _ v' (ab_cv h r k.toNat v')
                      unfold ab_cv
                      rw [if_neg (by omega)]
                      exact p3
                    · exact gc_ext G.2.2.2 e he
                · cases hq
              · cases hq
            · cases hq
          · cases hq
        · cases hq
    · cases hq
  · cases hq
theorem slot_congr {h h' : Hp} {t : TY} {r j : Nat} (e1 : h'.1 r j = h.1 r j) (e2 : h'.2 r j = h.2 r j) (hs : slotOK h t r j) : slotOK h' t r j := by
  unfold slotOK at hs ⊢
  rw [e1, e2]
  exact hs
/-- a write of an int keeps all types -/
theorem TInv.setI (hT : TInv h) {r code size i : Nat} {tys : List TY} {t : TY} {x : Int32} (h1 : 1 ≤ ab_kd r) (hK : ab_K[ab_kd r]? = some (code, size, tys)) (ht : (if code < 20 then tys[i]? else tys[0]?) = some t) (ht1 : t.1 = 1) (hx : t.2.1 ≤ x.toInt ∧ x.toInt ≤ t.2.2) : TInv (fl_setI h r i x) := by
  intro r' code' size' tys' j t' q1 q2 q3 q4
  have old := hT r' code' size' tys' j t' q1 q2 q3 q4
  by_cases hr : r' = r ∧ j = i
  · obtain ⟨rfl, rfl⟩ := hr
    rw [hK] at q2
    cases q2
    rw [ht] at q4
    cases q4
    unfold slotOK
    rw [ht1]
    simp only [fl_setI, and_self, if_true]
    exact hx
  · exact slot_congr (h := h) (by simp only [fl_setI]; rw [if_neg hr]) rfl old
theorem TInv.setR (hT : TInv h) {r code size i : Nat} {tys : List TY} {t : TY} {o : Option Nat} (h1 : 1 ≤ ab_kd r) (hK : ab_K[ab_kd r]? = some (code, size, tys)) (ht : (if code < 20 then tys[i]? else tys[0]?) = some t) (ht1 : t.1 = 2 ∨ t.1 = 4) (hx : valOK t (fl_rv o)) : TInv (fl_setR h r i o) := by
  intro r' code' size' tys' j t' q1 q2 q3 q4
  have old := hT r' code' size' tys' j t' q1 q2 q3 q4
  by_cases hr : r' = r ∧ j = i
  · obtain ⟨rfl, rfl⟩ := hr
    rw [hK] at q2
    cases q2
    rw [ht] at q4
    cases q4
    unfold slotOK
    unfold valOK at hx
    have e2 : (fl_setR h r' j o).2 r' j = o := by simp [fl_setR]
    rcases ht1 with ht1 | ht1 <;> rw [ht1] at hx ⊢ <;> simp only [e2]
    · obtain ⟨b, e3, e4⟩ := hx
      cases o with
      | none => cases e3
      | some c => cases e3; exact ⟨b, rfl, e4⟩
    · rcases hx with e3 | ⟨b, e3, e4⟩
      · cases o with
        | none => exact Or.inl rfl
        | some c => cases e3
      · cases o with
        | none => cases e3
        | some c => cases e3; exact Or.inr ⟨b, rfl, e4⟩
  · exact slot_congr (h := h) rfl (by simp only [fl_setR]; rw [if_neg hr]) old
theorem Fr.setI {r i : Nat} {x : Int32} (hm : ab_kd r ∈ mods) : Fr mods h (fl_setI h r i x) := fun r' hr => ⟨by funext j; simp only [fl_setI]; rw [if_neg]; rintro ⟨rfl, -⟩; exact hr hm, rfl⟩
theorem Fr.setR {r i : Nat} {x : Option Nat} (hm : ab_kd r ∈ mods) : Fr mods h (fl_setR h r i x) := fun r' hr => ⟨rfl, by funext j; simp only [fl_setR]; rw [if_neg]; rintro ⟨rfl, -⟩; exact hr hm⟩
end ABS
