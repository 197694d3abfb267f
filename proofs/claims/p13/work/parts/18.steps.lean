/-! arrays, references, longs, switches, copies -/
section ABS
variable {mods : List Nat} {a : List Int} {nx pc : Nat} {ls st : List AV} {env : List (Int × Int)} {ca : List (Nat × Nat × Nat × AV)} {l : List (Nat × AS)} {rho : List Int} {cls : List (Option Value)} {cst : List Value} {h : Hp}
theorem lay_isI {r size : Nat} (hr : r < fl_tot) (hl : fl_lay r = (20, size)) {h : Hp} : fl_isI fl_tot r = true ∧ fl_len h r = size := by
  have h285 : fl_tot = 285 := rfl
  unfold fl_isI fl_len
  rw [if_pos (by omega), if_pos (by omega), hl]
  simp only [Bool.and_eq_true, decide_eq_true_eq]
  exact ⟨⟨hr, rfl⟩, trivial⟩
theorem as11 (hq : ab_step mods (11, a, nx) (ls, st, env, ca) = some l) (G : Gm rho (ls, st, env, ca) cls cst h) (hT : TInv h) : Res mods (11, a, nx) pc cls cst h l rho := by
  simp only [ab_step] at hq
  split at hq
  · rename_i i v st
    obtain ⟨wi, cst0, rfl, hi, hst0⟩ := G.2.2.1
    obtain ⟨wv, cst1, rfl, hv, hst1⟩ := hst0
    split at hq
    · rename_i hv1
      obtain ⟨r, e1, rfl, e2⟩ := gv_ref hv1 hv
      split at hq
      · rename_i code size tys hK
        split at hq
        · rename_i hc
          simp only [Bool.and_eq_true, beq_iff_eq, decide_eq_true_eq] at hc
          obtain ⟨⟨k1, k2⟩, k3⟩ := hc
          split at hq
          · rename_i t
            split at hq
            · rename_i ht1
              split at hq
              · rename_i st' env' v' hput
                cases hq
                rw [← e2] at hK k2
                obtain ⟨hr, hlay⟩ := ab_kdK k2 hK
                rw [k1] at hlay
                obtain ⟨y, rfl, i1, i2⟩ := range_ok G.1 k3 hi
                obtain ⟨j1, j2⟩ := lay_isI (h := h) hr hlay
                have hslot := hT r code size [t] y.toNatClampNeg t k2 hK i2 (by rw [if_neg (by omega)]; rfl)
                obtain ⟨x, p1, p2, p3, p4, rfl⟩ := put_ty hput G.1 hst1 (slot_int ht1 hslot)
                refine res_pure (t := x) hT (by simp only [fl_step, j1, j2, i1, Bool.and_self, if_true] <;> rfl) List.mem_cons_self rfl ?_
                exact ⟨p1, gl_ext G.2.1, p2, gc_ext G.2.2.2⟩
              · cases hq
            · cases hq
          · cases hq
        · cases hq
      · cases hq
    · cases hq
  · cases hq
theorem as13 (hq : ab_step mods (13, a, nx) (ls, st, env, ca) = some l) (G : Gm rho (ls, st, env, ca) cls cst h) (hT : TInv h) : Res mods (13, a, nx) pc cls cst h l rho := by
  simp only [ab_step] at hq
  split at hq
  · rename_i i v st
    obtain ⟨wi, cst0, rfl, hi, hst0⟩ := G.2.2.1
    obtain ⟨wv, cst1, rfl, hv, hst1⟩ := hst0
    split at hq
    · rename_i hv1
      obtain ⟨r, e1, rfl, e2⟩ := gv_ref hv1 hv
      split at hq
      · rename_i code size tys hK
        split at hq
        · rename_i hc
          simp only [Bool.and_eq_true, beq_iff_eq, decide_eq_true_eq] at hc
          obtain ⟨⟨k1, k2⟩, k3⟩ := hc
          split at hq
          · rename_i t
            split at hq
            · rename_i ht1
              split at hq
              · rename_i st' env' v' hput
                cases hq
                rw [← e2] at hK k2
                obtain ⟨hr, hlay⟩ := ab_kdK k2 hK
                rw [k1] at hlay
                obtain ⟨y, rfl, i1, i2⟩ := range_ok G.1 k3 hi
                have hslot := hT r code size [t] y.toNatClampNeg t k2 hK i2 (by rw [if_neg (by omega)]; rfl)
                obtain ⟨x, p1, p2, p3, p4, rfl⟩ := put_ty hput G.1 hst1 (slot_int ht1 hslot)
                refine res_pure (t := x) hT (by simp only [fl_step]; exact if_pos ⟨hr, by rw [hlay], by rw [hlay]; exact i1⟩) List.mem_cons_self rfl ?_
                exact ⟨p1, gl_ext G.2.1, p2, gc_ext G.2.2.2⟩
              · cases hq
            · cases hq
          · cases hq
        · cases hq
      · cases hq
    · cases hq
  · cases hq
theorem as15 (hq : ab_step mods (15, a, nx) (ls, st, env, ca) = some l) (G : Gm rho (ls, st, env, ca) cls cst h) (hT : TInv h) : Res mods (15, a, nx) pc cls cst h l rho := by
  simp only [ab_step] at hq
  split at hq
  · rename_i i v st
    obtain ⟨wi, cst0, rfl, hi, hst0⟩ := G.2.2.1
    obtain ⟨wv, cst1, rfl, hv, hst1⟩ := hst0
    split at hq
    · rename_i hv1
      obtain ⟨r, e1, rfl, e2⟩ := gv_ref hv1 hv
      split at hq
      · rename_i code size tys hK
        split at hq
        · rename_i hc
          simp only [Bool.and_eq_true, beq_iff_eq, decide_eq_true_eq] at hc
          obtain ⟨⟨⟨k0, k1⟩, k2⟩, k3⟩ := hc
          split at hq
          · rename_i t
            split at hq
            · rename_i ht1
              split at hq
              · rename_i st' env' v' hput
                cases hq
                rw [← e2] at hK k2
                obtain ⟨hr, hlay⟩ := ab_kdK k2 hK
                obtain ⟨y, rfl, i1, i2⟩ := range_ok G.1 k3 hi
                have hslot := hT r code size [t] y.toNatClampNeg t k2 hK i2 (by rw [if_neg (by omega)]; rfl)
                obtain ⟨x, p1, p2, p3, p4, rfl⟩ := put_ty hput G.1 hst1 (slot_ref ht1 hslot)
                refine res_pure (t := x) hT (by simp only [fl_step]; exact if_pos ⟨hr, by rw [hlay]; exact k0, by rw [hlay]; exact k1, by rw [hlay]; exact i1⟩) List.mem_cons_self rfl ?_
                exact ⟨p1, gl_ext G.2.1, p2, gc_ext G.2.2.2⟩
              · cases hq
            · cases hq
          · cases hq
        · cases hq
      · cases hq
    · cases hq
  · cases hq
theorem gc_arrI {r i : Nat} {x : Int32} (hr : 20 ≤ (fl_lay r).1) (g : gc rho h ca) : gc rho (fl_setI h r i x) ca := gc_setI (fun e _ r' _ _ h4 => by rintro ⟨rfl, -⟩; omega) g
theorem gc_arrR {r i : Nat} {x : Option Nat} (hr : 20 ≤ (fl_lay r).1) (g : gc rho h ca) : gc rho (fl_setR h r i x) ca := gc_setR (fun e _ r' _ _ h4 => by rintro ⟨rfl, -⟩; omega) g
theorem as12 (hq : ab_step mods (12, a, nx) (ls, st, env, ca) = some l) (G : Gm rho (ls, st, env, ca) cls cst h) (hT : TInv h) : Res mods (12, a, nx) pc cls cst h l rho := by
  simp only [ab_step] at hq
  split at hq
  · rename_i x i v st
    obtain ⟨wx, cst9, rfl, hx, hst9⟩ := G.2.2.1
    obtain ⟨wi, cst0, rfl, hi, hst0⟩ := hst9
    obtain ⟨wv, cst1, rfl, hv, hst1⟩ := hst0
    split at hq
    · rename_i hv1
      obtain ⟨hv1, hmod⟩ := hv1
      obtain ⟨r, e1, rfl, e2⟩ := gv_ref hv1 hv
      rw [← e2] at hmod
      split at hq
      · rename_i code size tys hK
        split at hq
        · rename_i hc
          simp only [Bool.and_eq_true, beq_iff_eq, decide_eq_true_eq] at hc
          obtain ⟨⟨k1, k2⟩, k3⟩ := hc
          split at hq
          · rename_i t
            split at hq
            · rename_i ht1
              cases hq
              rw [← e2] at hK k2
              obtain ⟨hr, hlay⟩ := ab_kdK k2 hK
              rw [k1] at hlay
              obtain ⟨y, rfl, i1, i2⟩ := range_ok G.1 k3 hi
              obtain ⟨z, rfl, hz⟩ := val_int ht1.1 (fits_ok G.1 ht1.2 hx)
              refine ⟨(nx, cls, cst1, fl_setI h r y.toNatClampNeg z, fl_tot), _, [], by simp only [fl_step]; exact if_pos ⟨hr, by rw [hlay], by rw [hlay]; exact i1⟩, List.mem_cons_self, rfl, ?_, hT.setI k2 hK (by rw [if_neg (by omega)]; rfl) ht1.1 hz, rfl, Fr.setI hmod⟩
              rw [nil_app]
              exact ⟨G.1, G.2.1, hst1, gc_arrI (by rw [hlay]; exact Nat.le_refl _) G.2.2.2⟩
            · cases hq
          · cases hq
        · cases hq
      · cases hq
    · cases hq
  · cases hq
theorem as14 (hq : ab_step mods (14, a, nx) (ls, st, env, ca) = some l) (G : Gm rho (ls, st, env, ca) cls cst h) (hT : TInv h) : Res mods (14, a, nx) pc cls cst h l rho := by
  simp only [ab_step] at hq
  split at hq
  · rename_i x i v st
    obtain ⟨wx, cst9, rfl, hx, hst9⟩ := G.2.2.1
    obtain ⟨wi, cst0, rfl, hi, hst0⟩ := hst9
    obtain ⟨wv, cst1, rfl, hv, hst1⟩ := hst0
    split at hq
    · rename_i hv1
      obtain ⟨hv1, hmod⟩ := hv1
      obtain ⟨r, e1, rfl, e2⟩ := gv_ref hv1 hv
      rw [← e2] at hmod
      split at hq
      · rename_i code size tys hK
        split at hq
        · rename_i hc
          simp only [Bool.and_eq_true, beq_iff_eq, decide_eq_true_eq] at hc
          obtain ⟨⟨k1, k2⟩, k3⟩ := hc
          split at hq
          · rename_i t
            split at hq
            · rename_i ht1
              cases hq
              obtain ⟨ht1, ht2, ht3, ht4⟩ := ht1
              rw [← e2] at hK k2
              obtain ⟨hr, hlay⟩ := ab_kdK k2 hK
              rw [k1] at hlay
              obtain ⟨y, rfl, i1, i2⟩ := range_ok G.1 k3 hi
              obtain ⟨z, rfl, hz⟩ := val_int ht1 (fits_ok G.1 ht4 hx)
              have hbit : fl_bit z = true := by
                simp only [fl_bit, Bool.or_eq_true, decide_eq_true_eq]
                rcases (by omega : z.toInt = 0 ∨ z.toInt = 1) with q | q
                · exact Or.inl (i_eq.mpr q)
                · exact Or.inr (i_eq.mpr q)
              refine ⟨(nx, cls, cst1, fl_setI h r y.toNatClampNeg z, fl_tot), _, [], by simp only [fl_step]; exact if_pos ⟨hr, by rw [hlay], by rw [hlay]; exact i1, hbit, trivial⟩, List.mem_cons_self, rfl, ?_, hT.setI k2 hK (by rw [if_neg (by omega)]; rfl) ht1 hz, rfl, Fr.setI hmod⟩
              rw [nil_app]
              exact ⟨G.1, G.2.1, hst1, gc_arrI (by rw [hlay]; exact Nat.le_succ 20) G.2.2.2⟩
            · cases hq
          · cases hq
        · cases hq
      · cases hq
    · cases hq
  · cases hq
theorem as16 (hq : ab_step mods (16, a, nx) (ls, st, env, ca) = some l) (G : Gm rho (ls, st, env, ca) cls cst h) (hT : TInv h) : Res mods (16, a, nx) pc cls cst h l rho := by
  simp only [ab_step] at hq
  split at hq
  · rename_i x i v st
    obtain ⟨wx, cst9, rfl, hx, hst9⟩ := G.2.2.1
    obtain ⟨wi, cst0, rfl, hi, hst0⟩ := hst9
    obtain ⟨wv, cst1, rfl, hv, hst1⟩ := hst0
    split at hq
    · rename_i hv1
      obtain ⟨hv1, hmod, hx1, hx2⟩ := hv1
      obtain ⟨r, e1, rfl, e2⟩ := gv_ref hv1 hv
      obtain ⟨b, d1, rfl, d2⟩ := gv_ref hx1 hx
      rw [← e2] at hmod
      rw [← d2] at hx2
      split at hq
      · rename_i code size tys code2 size2 tys2 hK hK2
        split at hq
        · rename_i hc
          simp only [Bool.and_eq_true, beq_iff_eq, decide_eq_true_eq] at hc
          obtain ⟨⟨⟨⟨k0, k1⟩, k2⟩, k3⟩, k4⟩ := hc
          split at hq
          · rename_i t
            split at hq
            · rename_i ht1
              cases hq
              rw [← e2] at hK k2
              rw [← d2] at hK2
              obtain ⟨hr, hlay⟩ := ab_kdK k2 hK
              obtain ⟨hr2, hlay2⟩ := ab_kdK hx2 hK2
              obtain ⟨y, rfl, i1, i2⟩ := range_ok G.1 k3 hi
              refine ⟨(nx, cls, cst1, fl_setR h r y.toNatClampNeg (some b), fl_tot), _, [], by simp only [fl_step]; exact if_pos ⟨hr, by rw [hlay]; exact k0, by rw [hlay]; exact k1, by rw [hlay]; exact i1, hr2, by rw [hlay, hlay2]; exact k4⟩, List.mem_cons_self, rfl, ?_, hT.setR k2 hK (by rw [if_neg (by omega)]; rfl) ht1.1 (fits_ok (v := .ref b) G.1 ht1.2 hx), rfl, Fr.setR hmod⟩
              rw [nil_app]
              exact ⟨G.1, G.2.1, hst1, gc_arrR (by rw [hlay]; simp only; omega) G.2.2.2⟩
            · cases hq
          · cases hq
        · cases hq
      · cases hq
    · cases hq
  · cases hq
theorem st_lens : ∀ j, j < 10 → 1 ≤ ((fl_st[j]?).getD []).length ∧ ((fl_st[j]?).getD []).length ≤ 9 := by decide +kernel
theorem as17 (hq : ab_step mods (17, a, nx) (ls, st, env, ca) = some l) (G : Gm rho (ls, st, env, ca) cls cst h) (hT : TInv h) : Res mods (17, a, nx) pc cls cst h l rho := by
  simp only [ab_step] at hq
  split at hq
  · rename_i v st
    obtain ⟨wv, cst1, rfl, hv, hst1⟩ := G.2.2.1
    have hof : ∀ n : Nat, n < 100000 → (Int32.ofNat n).toInt = (n : Int) := fun n hn => Int32.toInt_ofNat_of_lt (by omega)
    have fin : ∀ (r n : Nat) (b : Int × Int), fl_step (17, a, nx) (pc, cls, .ref r :: cst1, h, fl_tot) = some (.inl (nx, cls, .int (Int32.ofNat n) :: cst1, h, fl_tot)) → n < 100000 → b.1 ≤ (n : Int) ∧ (n : Int) ≤ b.2 → wv = .ref r → l = [(nx, ls, (1, env.length, 0) :: st, env ++ [b], ca)] → Res mods (17, a, nx) pc cls (wv :: cst1) h l rho := by
      intro r n b hs hn hb hw hl
      subst hw; subst hl
      have e := hof n hn
      refine res_pure (t := [(n : Int)]) hT hs List.mem_cons_self rfl ?_
      exact ⟨ga_push G.1 (Or.inr hb), gl_ext G.2.1, gs_cons (gv_mk (by rw [ga_last G.1, e]; simp)) (gs_ext hst1), gc_ext G.2.2.2⟩
    split at hq
    · rename_i hv1
      obtain ⟨r, e1, rfl, e2⟩ := gv_ref hv1 hv
      split at hq
      · rename_i h0
        rw [← e2] at h0
        obtain ⟨q1, q2⟩ := ab_kd0 h0
        have hlen : fl_len h r = ((fl_st[r - 1000]?).getD []).length := by
          unfold fl_len
          rw [if_neg (by omega), if_neg (by omega)]
        have hb := st_lens (r - 1000) (by omega)
        refine fin r (fl_len h r) (1, 9) ?_ (by omega) (by simp only; omega) rfl (Option.some.inj hq).symm
        simp only [fl_step]
        exact if_pos (Or.inr ⟨q1, Nat.le_trans (Nat.le_of_lt q2) (by decide)⟩)
      · rename_i h0
        split at hq
        · rename_i code size tys hK
          split at hq
          · rename_i hc
            simp only [Bool.and_eq_true, decide_eq_true_eq] at hc
            rw [← e2] at hK h0
            obtain ⟨hr, hlay⟩ := ab_kdK (by omega) hK
            have hlen : fl_len h r = size := by
              unfold fl_len
              rw [if_pos (by have : fl_tot = 285 := rfl; omega), hlay]
            refine fin r (fl_len h r) ((size : Int), (size : Int)) ?_ (by omega) (by simp only; omega) rfl (Option.some.inj hq).symm
            simp only [fl_step]
            exact if_pos (Or.inl ⟨hr, by rw [hlay]; exact hc.1.1, by rw [hlay]; exact hc.1.2⟩)
          · cases hq
        · cases hq
    · cases hq
  · cases hq
theorem as25 (hq : ab_step mods (25, a, nx) (ls, st, env, ca) = some l) (G : Gm rho (ls, st, env, ca) cls cst h) (hT : TInv h) : Res mods (25, a, nx) pc cls cst h l rho := by
  simp only [ab_step] at hq
  split at hq
  · obtain ⟨wv, cst1, rfl, hv, hst1⟩ := G.2.2.1
    split at hq
    · rename_i h1
      cases hq
      refine res_pure (t := []) hT (by simp only [fl_step, if_pos (one_cat h1 hv)] <;> rfl) List.mem_cons_self rfl ?_
      rw [nil_app]
      exact ⟨G.1, G.2.1, gs_cons hv (gs_cons hv hst1), G.2.2.2⟩
    · cases hq
  · cases hq
theorem one_nl {v : AV} {w : Value} {cst : List Value} {h : Hp} {n : Nat} (h1 : ab_one v = true) (hv : gv rho v w) : ∀ x, w ≠ .long x := by
  intro x hx
  subst hx
  have := one_cat h1 hv
  cases this
theorem as26 (hq : ab_step mods (26, a, nx) (ls, st, env, ca) = some l) (G : Gm rho (ls, st, env, ca) cls cst h) (hT : TInv h) : Res mods (26, a, nx) pc cls cst h l rho := by
  simp only [ab_step] at hq
  split at hq
  · obtain ⟨wv, cst1, rfl, hv, hst1⟩ := G.2.2.1
    obtain ⟨ww, cst2, rfl, hw, hst2⟩ := hst1
    split at hq
    · rename_i h1
      cases hq
      rw [Bool.and_eq_true] at h1
      have c1 := one_cat h1.1 hv
      have c2 := one_cat h1.2 hw
      refine res_pure (t := []) (cls' := cls) (cst' := wv :: ww :: wv :: ww :: cst2) hT ?_ List.mem_cons_self rfl ?_
      · cases wv <;> first | (cases c1; done) | (simp only [fl_step, if_pos (⟨c1, c2⟩ : _ ∧ _)])
      · rw [nil_app]
        exact ⟨G.1, G.2.1, gs_cons hv (gs_cons hw (gs_cons hv (gs_cons hw hst2))), G.2.2.2⟩
    · cases hq
  · cases hq
theorem as27 (hq : ab_step mods (27, a, nx) (ls, st, env, ca) = some l) (G : Gm rho (ls, st, env, ca) cls cst h) (hT : TInv h) : Res mods (27, a, nx) pc cls cst h l rho := by
  simp only [ab_step] at hq
  split at hq
  · obtain ⟨wv, cst1, rfl, hv, hst1⟩ := G.2.2.1
    split at hq
    · rename_i h1
      cases hq
      refine res_pure (t := []) hT (by simp only [fl_step, if_pos (one_cat h1 hv)] <;> rfl) List.mem_cons_self rfl ?_
      rw [nil_app]
      exact ⟨G.1, G.2.1, hst1, G.2.2.2⟩
    · cases hq
  · cases hq
theorem gv_long {x : AV} {v : Value} (h5 : x.1 = 5) (h : gv rho x v) : ∃ y : Int64, v = .long y := by
  unfold gv at h
  rw [h5] at h
  exact h
theorem as28 (hq : ab_step mods (28, a, nx) (ls, st, env, ca) = some l) (G : Gm rho (ls, st, env, ca) cls cst h) (hT : TInv h) : Res mods (28, a, nx) pc cls cst h l rho := by
  simp only [ab_step] at hq
  split at hq
  · obtain ⟨wv, cst1, rfl, hv, hst1⟩ := G.2.2.1
    split at hq
    · rename_i h1
      cases hq
      obtain ⟨y, rfl⟩ := gv_long h1 hv
      refine res_pure (t := []) hT rfl List.mem_cons_self rfl ?_
      rw [nil_app]
      exact ⟨G.1, G.2.1, hst1, G.2.2.2⟩
    · cases hq
  · cases hq
theorem as32 (hq : ab_step mods (32, a, nx) (ls, st, env, ca) = some l) (G : Gm rho (ls, st, env, ca) cls cst h) (hT : TInv h) : Res mods (32, a, nx) pc cls cst h l rho := by
  simp only [ab_step] at hq
  split at hq
  · rename_i j
    split at hq
    · rename_i hj
      cases hq
      refine res_pure (t := [((1000 + j.toNat : Nat) : Int)]) hT rfl List.mem_cons_self rfl ?_
      refine ⟨ga_push G.1 (Or.inl (by decide)), gl_ext G.2.1, gs_cons ⟨1000 + j.toNat, ga_last G.1, rfl, ?_⟩ (gs_ext G.2.2.1), gc_ext G.2.2.2⟩
      unfold ab_kd
      rw [if_neg (by omega), if_pos (by omega)]
      rfl
    · cases hq
  · cases hq
/-- a reference or null that is known to be a reference -/
theorem nn_ok {i r : Nat} {b : AV} {v : Value} (hi : rho[i]? = some (r : Int)) (h : gv rho b v) : gv rho (ab_nn i b) v := by
  unfold ab_nn
  split
  · rename_i hc
    obtain ⟨h4, rfl⟩ := hc
    unfold gv at h
    rw [h4] at h
    obtain ⟨x, e1, e2⟩ := h
    have hx : x = (r : Int) := Option.some.inj (e1.symm.trans hi)
    rcases e2 with ⟨z, -⟩ | ⟨r', z1, z2, z3⟩
    · omega
    · exact ⟨r', by rw [e1, z1], z2, z3⟩
  · exact h
theorem nn_gs {i r : Nat} (hi : rho[i]? = some (r : Int)) : ∀ {s : List AV} {vs : List Value}, gs rho s vs → gs rho (s.map (ab_nn i)) vs
  | [], _, h => h
  | _ :: _, _, ⟨v, w, h1, h2, h3⟩ => ⟨v, w, h1, nn_ok hi h2, nn_gs hi h3⟩
theorem nn_tag {i : Nat} {b : AV} : ((ab_nn i b).1 = 0 ↔ b.1 = 0) ∧ ((ab_nn i b).1 = 1 ↔ b.1 = 1) := by
  unfold ab_nn
  split
  · rename_i hc
    rw [hc.1]
    exact ⟨⟨fun z => (by cases z), fun z => (by cases z)⟩, ⟨fun z => (by cases z), fun z => (by cases z)⟩⟩
  · exact ⟨Iff.rfl, Iff.rfl⟩
theorem nn_gl {i r : Nat} (hi : rho[i]? = some (r : Int)) (g : gl rho ls cls) : gl rho (ls.map (ab_nn i)) cls := by
  refine ⟨by simp [g.1], fun k b hk => ?_⟩
  rw [List.getElem?_map] at hk
  obtain ⟨c, h1, rfl⟩ := Option.map_eq_some_iff.mp hk
  refine ⟨fun z => (g.2 k c h1).1 (nn_tag.1.mp z), fun z => ?_⟩
  obtain ⟨v, e1, e2⟩ := (g.2 k c h1).2 (fun q => z (nn_tag.1.mpr q))
  exact ⟨v, e1, nn_ok hi e2⟩
theorem nn_gc {i r : Nat} (hi : rho[i]? = some (r : Int)) (g : gc rho h ca) : gc rho h (ca.map (fun e => (e.1, e.2.1, e.2.2.1, ab_nn i e.2.2.2))) := by
  intro e he
  obtain ⟨d, hd, rfl⟩ := List.mem_map.mp he
  obtain ⟨r', h1, h2, h4, h3⟩ := g d hd
  refine ⟨r', h1, h2, h4, ?_⟩
  have : ab_cv h r' d.2.2.1 (ab_nn i d.2.2.2) = ab_cv h r' d.2.2.1 d.2.2.2 := by
    unfold ab_cv
    by_cases z : d.2.2.2.1 = 1
    · rw [if_pos z, if_pos (nn_tag.2.mpr z)]
    · rw [if_neg z, if_neg (fun q => z (nn_tag.2.mp q))]
  simp only
  rw [this]
  exact nn_ok hi h3
theorem as33 (hq : ab_step mods (33, a, nx) (ls, st, env, ca) = some l) (G : Gm rho (ls, st, env, ca) cls cst h) (hT : TInv h) : Res mods (33, a, nx) pc cls cst h l rho := by
  simp only [ab_step] at hq
  split at hq
  · rename_i t v st
    obtain ⟨wv, cst1, rfl, hv, hst1⟩ := G.2.2.1
    split at hq
    · rename_i h1
      cases hq
      obtain ⟨r, e1, rfl, e2⟩ := gv_ref h1 hv
      refine res_pure (t := []) hT rfl List.mem_cons_self rfl ?_
      rw [nil_app]
      exact ⟨G.1, G.2.1, hst1, G.2.2.2⟩
    · split at hq
      · rename_i h1
        cases hq
        unfold gv at hv
        rw [h1] at hv
        subst hv
        refine res_pure (t := []) hT rfl List.mem_cons_self rfl ?_
        rw [nil_app]
        exact ⟨G.1, G.2.1, hst1, G.2.2.2⟩
      · split at hq
        · rename_i h1
          cases hq
          unfold gv at hv
          rw [h1] at hv
          obtain ⟨x, e1, e2⟩ := hv
          rcases e2 with ⟨-, rfl⟩ | ⟨r, rfl, rfl, e3⟩
          · refine res_pure (t := []) hT rfl List.mem_cons_self rfl ?_
            rw [nil_app]
            exact ⟨G.1, G.2.1, hst1, G.2.2.2⟩
          · refine res_pure (t := []) hT rfl (List.mem_cons_of_mem _ List.mem_cons_self) rfl ?_
            rw [nil_app]
            exact ⟨G.1, nn_gl e1 G.2.1, nn_gs e1 hst1, nn_gc e1 G.2.2.2⟩
        · cases hq
  · cases hq
theorem as34 (hq : ab_step mods (34, a, nx) (ls, st, env, ca) = some l) (G : Gm rho (ls, st, env, ca) cls cst h) (hT : TInv h) : Res mods (34, a, nx) pc cls cst h l rho := by
  simp only [ab_step] at hq
  split at hq
  · rename_i t v st
    obtain ⟨wv, cst1, rfl, hv, hst1⟩ := G.2.2.1
    split at hq
    · rename_i h1
      cases hq
      obtain ⟨r, e1, rfl, e2⟩ := gv_ref h1 hv
      refine res_pure (t := []) hT rfl List.mem_cons_self rfl ?_
      rw [nil_app]
      exact ⟨G.1, G.2.1, hst1, G.2.2.2⟩
    · split at hq
      · rename_i h1
        cases hq
        unfold gv at hv
        rw [h1] at hv
        subst hv
        refine res_pure (t := []) hT rfl List.mem_cons_self rfl ?_
        rw [nil_app]
        exact ⟨G.1, G.2.1, hst1, G.2.2.2⟩
      · split at hq
        · rename_i h1
          cases hq
          unfold gv at hv
          rw [h1] at hv
          obtain ⟨x, e1, e2⟩ := hv
          rcases e2 with ⟨-, rfl⟩ | ⟨r, rfl, rfl, e3⟩
          · refine res_pure (t := []) hT rfl List.mem_cons_self rfl ?_
            rw [nil_app]
            exact ⟨G.1, G.2.1, hst1, G.2.2.2⟩
          · refine res_pure (t := []) hT rfl (List.mem_cons_of_mem _ List.mem_cons_self) rfl ?_
            rw [nil_app]
            exact ⟨G.1, nn_gl e1 G.2.1, nn_gs e1 hst1, nn_gc e1 G.2.2.2⟩
        · cases hq
  · cases hq
theorem as35 (hq : ab_step mods (35, a, nx) (ls, st, env, ca) = some l) (G : Gm rho (ls, st, env, ca) cls cst h) (hT : TInv h) : Res mods (35, a, nx) pc cls cst h l rho := by
  cases hq
  refine res_pure (t := []) hT rfl List.mem_cons_self rfl ?_
  rw [nil_app]
  exact ⟨G.1, G.2.1, gs_cons rfl G.2.2.1, G.2.2.2⟩
theorem as36 (hq : ab_step mods (36, a, nx) (ls, st, env, ca) = some l) (G : Gm rho (ls, st, env, ca) cls cst h) (hT : TInv h) : Res mods (36, a, nx) pc cls cst h l rho := by
  simp only [ab_step] at hq
  split at hq
  · obtain ⟨wv, cst1, rfl, hv, hst1⟩ := G.2.2.1
    split at hq
    · rename_i h1
      cases hq
      obtain ⟨x, y, -, rfl, -⟩ := gv_int h1 hv
      refine res_pure (t := []) hT rfl List.mem_cons_self rfl ?_
      rw [nil_app]
      exact ⟨G.1, G.2.1, gs_cons ⟨_, rfl⟩ hst1, G.2.2.2⟩
    · cases hq
  · cases hq
theorem as37 (hq : ab_step mods (37, a, nx) (ls, st, env, ca) = some l) (G : Gm rho (ls, st, env, ca) cls cst h) (hT : TInv h) : Res mods (37, a, nx) pc cls cst h l rho := by
  simp only [ab_step] at hq
  split at hq
  · obtain ⟨wv, cst1, rfl, hv, hst1⟩ := G.2.2.1
    obtain ⟨ww, cst2, rfl, hw, hst2⟩ := hst1
    split at hq
    · rename_i h1
      cases hq
      obtain ⟨x, rfl⟩ := gv_long h1.1 hv
      obtain ⟨y, rfl⟩ := gv_long h1.2 hw
      refine res_pure (t := []) hT rfl List.mem_cons_self rfl ?_
      rw [nil_app]
      exact ⟨G.1, G.2.1, gs_cons ⟨_, rfl⟩ hst2, G.2.2.2⟩
    · cases hq
  · cases hq
theorem as38 (hq : ab_step mods (38, a, nx) (ls, st, env, ca) = some l) (G : Gm rho (ls, st, env, ca) cls cst h) (hT : TInv h) : Res mods (38, a, nx) pc cls cst h l rho := by
  simp only [ab_step] at hq
  split at hq
  · obtain ⟨wv, cst1, rfl, hv, hst1⟩ := G.2.2.1
    obtain ⟨ww, cst2, rfl, hw, hst2⟩ := hst1
    split at hq
    · rename_i h1
      cases hq
      obtain ⟨x, rfl⟩ := gv_long h1.1 hv
      obtain ⟨y, rfl⟩ := gv_long h1.2 hw
      refine res_pure (t := []) hT rfl List.mem_cons_self rfl ?_
      rw [nil_app]
      exact ⟨G.1, G.2.1, gs_cons ⟨_, rfl⟩ hst2, G.2.2.2⟩
    · cases hq
  · cases hq
theorem as39 (hq : ab_step mods (39, a, nx) (ls, st, env, ca) = some l) (G : Gm rho (ls, st, env, ca) cls cst h) (hT : TInv h) : Res mods (39, a, nx) pc cls cst h l rho := by
  simp only [ab_step] at hq
  split at hq
  · cases hq
    refine res_pure (t := []) hT rfl List.mem_cons_self rfl ?_
    rw [nil_app]
    exact ⟨G.1, G.2.1, gs_cons ⟨_, rfl⟩ G.2.2.1, G.2.2.2⟩
  · cases hq
theorem as40 (hq : ab_step mods (40, a, nx) (ls, st, env, ca) = some l) (G : Gm rho (ls, st, env, ca) cls cst h) (hT : TInv h) : Res mods (40, a, nx) pc cls cst h l rho := by
  simp only [ab_step] at hq
  split at hq
  · rename_i lo df ts x st
    obtain ⟨wv, cst1, rfl, hv, hst1⟩ := G.2.2.1
    split at hq
    · rename_i b hb
      cases hq
      obtain ⟨y, k1, rfl, k2, k3⟩ := bnd_ok G.1 hv hb
      have dfl : fl_step (40, lo :: df :: ts, nx) (pc, cls, .int y :: cst1, h, fl_tot) = some (.inl (df.toNat, cls, cst1, h, fl_tot)) → Res mods (40, lo :: df :: ts, nx) pc cls (.int y :: cst1) h ((df.toNat, ls, st, env, ca) :: (ts.zipIdx.filterMap (fun e => if b.1 ≤ lo + (e.2 : Int) ∧ lo + (e.2 : Int) ≤ b.2 then some (e.1.toNat, ls, st, ab_set env x (lo + (e.2 : Int), lo + (e.2 : Int)), ca) else none))) rho := by
        intro hs
        refine res_pure (t := []) hT hs List.mem_cons_self rfl ?_
        rw [nil_app]
        exact ⟨G.1, G.2.1, hst1, G.2.2.2⟩
      by_cases h1 : y.toInt < lo
      · exact dfl (by simp only [fl_step, if_pos h1])
      · cases ht : ts[(y.toInt - lo).toNat]? with
        | none => exact dfl (by simp only [fl_step, if_neg h1, ht])
        | some t =>
          have hidx : lo + (((y.toInt - lo).toNat : Nat) : Int) = y.toInt := by omega
          refine res_pure (t := []) (e := (t.toNat, ls, st, ab_set env x (lo + (((y.toInt - lo).toNat : Nat) : Int), lo + (((y.toInt - lo).toNat : Nat) : Int)), ca)) hT (by simp only [fl_step, if_neg h1, ht] <;> rfl) (List.mem_cons_of_mem _ (List.mem_filterMap.mpr ⟨(t, (y.toInt - lo).toNat), ?_, ?_⟩)) rfl ?_
          · exact List.mem_zipIdx_iff_getElem?.mpr ht
          · simp only
            rw [if_pos (by omega)]
          · rw [nil_app]
            exact ⟨ga_setv G.1 k3 (by simp only; omega), G.2.1, hst1, G.2.2.2⟩
    · cases hq
  · cases hq
theorem cat_ok : ∀ {s : List AV} {vs : List Value}, gs rho s vs → fl_cat vs ≤ ab_cat s
  | [], _, h => by
    have : _ = [] := h
    subst this
    exact Nat.zero_le _
  | b :: s, _, ⟨v, w, h1, h2, h3⟩ => by
    subst h1
    have ih := cat_ok h3
    have hc : v.category ≤ if b.1 = 5 then 2 else 1 := by
      unfold gv at h2
      split at h2
      · obtain ⟨_, _, _, rfl, _⟩ := h2; split <;> simp [Value.category]
      · obtain ⟨_, _, rfl, _⟩ := h2; split <;> simp [Value.category]
      · subst h2; split <;> simp [Value.category]
      · obtain ⟨_, _, q⟩ := h2
        rcases q with ⟨_, rfl⟩ | ⟨_, _, rfl, _⟩ <;> (split <;> simp [Value.category])
      · rename_i h5
        obtain ⟨_, rfl⟩ := h2
        rw [if_pos h5]
        simp [Value.category]
      · rw [h2]; split <;> omega
    show ((v :: w).map _).sum ≤ ((b :: s).map _).sum
    rw [List.map_cons, List.sum_cons, List.map_cons, List.sum_cons]
    have : (w.map fun v => v.category).sum ≤ (s.map fun a => if a.1 = 5 then 2 else 1).sum := ih
    omega
theorem as41 (hq : ab_step mods (41, a, nx) (ls, st, env, ca) = some l) (G : Gm rho (ls, st, env, ca) cls cst h) (hT : TInv h) : Res mods (41, a, nx) pc cls cst h l rho := by
  simp only [ab_step] at hq
  split at hq
  · rename_i k dp b sp o st
    obtain ⟨w1, c1, rfl, g1, s1⟩ := G.2.2.1
    obtain ⟨w2, c2, rfl, g2, s2⟩ := s1
    obtain ⟨w3, c3, rfl, g3, s3⟩ := s2
    obtain ⟨w4, c4, rfl, g4, s4⟩ := s3
    obtain ⟨w5, c5, rfl, g5, s5⟩ := s4
    split at hq
    · rename_i hc
      obtain ⟨hb1, ho1, hmod, hk1, hk2, hcat⟩ := hc
      obtain ⟨rb, e1, rfl, e2⟩ := gv_ref hb1 g3
      obtain ⟨ro, d1, rfl, d2⟩ := gv_ref ho1 g5
      split at hq
      · rename_i code1 n1 t1 code2 n2 t2 bk bd bs hK1 hK2 hbk hbd hbs
        split at hq
        · rename_i hz
          cases hq
          simp only [Bool.and_eq_true, beq_iff_eq, decide_eq_true_eq] at hz
          obtain ⟨⟨⟨⟨⟨⟨⟨⟨⟨⟨z1, z2⟩, z3⟩, z4⟩, z5⟩, z6⟩, z7⟩, z8⟩, z9⟩, z10⟩, z11⟩ := hz
          rw [← e2] at hmod hk1 hK1
          rw [← d2] at hk2 hK2
          obtain ⟨hr1, hl1⟩ := ab_kdK hk1 hK1
          obtain ⟨hr2, hl2⟩ := ab_kdK hk2 hK2
          rw [z1] at hl1
          rw [z2] at hl2
          obtain ⟨yk, -, rfl, yk2, -⟩ := bnd_ok G.1 g1 hbk
          obtain ⟨yd, -, rfl, yd2, -⟩ := bnd_ok G.1 g2 hbd
          obtain ⟨ys, -, rfl, ys2, -⟩ := bnd_ok G.1 g4 hbs
          have nn : ∀ y : Int32, 0 ≤ y.toInt → ¬ y < 0 := fun y hy z => by have := Int32.lt_iff_toInt_lt.mp z; rw [Int32.toInt_zero] at this; omega
          have tn : ∀ y : Int32, y.toNatClampNeg = y.toInt.toNat := fun y => rfl
          have hsrc : ys.toNatClampNeg + yk.toNatClampNeg ≤ n2 := by rw [tn, tn]; omega
          have hdst : yd.toNatClampNeg + yk.toNatClampNeg ≤ n1 := by rw [tn, tn]; omega
          refine ⟨(nx, cls, c5, fl_copy h ro ys.toNatClampNeg rb yd.toNatClampNeg yk.toNatClampNeg, fl_tot), _, [], ?_, List.mem_cons_self, rfl, ?_, ?_, rfl, ?_⟩
          · simp only [fl_step]
            exact if_pos ⟨trivial, hr2, hr1, by rw [hl2], by rw [hl1], nn _ (by omega), nn _ (by omega), nn _ (by omega), by rw [hl2]; exact hsrc, by rw [hl1]; exact hdst, Nat.le_trans (cat_ok s5) hcat⟩
          · rw [nil_app]
            refine ⟨G.1, G.2.1, s5, fun e he => ?_⟩
            obtain ⟨r', q1, q2, q4, q3⟩ := G.2.2.2 e he
            refine ⟨r', q1, q2, q4, ?_⟩
            have hne : r' ≠ rb := by
              rintro rfl
              rw [hl1] at q4
              simp only at q4
              omega
            have : ab_cv (fl_copy h ro ys.toNatClampNeg rb yd.toNatClampNeg yk.toNatClampNeg) r' e.2.2.1 e.2.2.2 = ab_cv h r' e.2.2.1 e.2.2.2 := by
              unfold ab_cv fl_copy
              simp only [if_neg hne]
            rw [this]
            exact q3
          · intro r code size tys j t q1 q2 q3 q4
            have old := hT r code size tys j t q1 q2 q3 q4
            by_cases hr : r = rb
            · subst hr
              rw [hK1] at q2
              cases q2
              rw [if_neg (by omega)] at q4
              cases q4
              unfold slotOK at old ⊢
              rw [z8] at old ⊢
              simp only at old ⊢
              simp only [fl_copy, if_true]
              split
              · rename_i hj
                have hin : ys.toNatClampNeg + (j - yd.toNatClampNeg) < n2 := by omega
                have src := hT ro code2 n2 [t2] (ys.toNatClampNeg + (j - yd.toNatClampNeg)) t2 hk2 hK2 hin (by rw [if_neg (by omega)]; rfl)
                unfold slotOK at src
                rw [z9] at src
                simp only at src
                omega
              · exact old
            · exact slot_congr (h := h) (by simp only [fl_copy, if_neg hr]) rfl old
          · intro r hr
            have : r ≠ rb := by rintro rfl; exact hr hmod
            exact ⟨by funext j; simp only [fl_copy, if_neg this], rfl⟩
        · cases hq
      · cases hq
    · cases hq
  · cases hq
end ABS
