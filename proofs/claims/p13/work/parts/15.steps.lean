/-! each step that the checker allows is a step of the flat machine, and its states fit -/
def slotOK (h : Hp) (t : TY) (r j : Nat) : Prop := match t.1 with
  | 1 => t.2.1 ≤ (h.1 r j).toInt ∧ (h.1 r j).toInt ≤ t.2.2
  | 2 => ∃ b, h.2 r j = some b ∧ ab_kd b = t.2.1.toNat
  | 4 => h.2 r j = none ∨ ∃ b, h.2 r j = some b ∧ ab_kd b = t.2.1.toNat
  | _ => True
/-- every slot of every cell has its type -/
def TInv (h : Hp) : Prop := ∀ (r code size : Nat) (tys : List TY) (j : Nat) (t : TY), 1 ≤ ab_kd r → ab_K[ab_kd r]? = some (code, size, tys) → j < size → (if code < 20 then tys[j]? else tys[0]?) = some t → slotOK h t r j
def Fr (mods : List Nat) (h h' : Hp) : Prop := ∀ r, ab_kd r ∉ mods → h'.1 r = h.1 r ∧ h'.2 r = h.2 r
theorem Fr.rfl' {mods : List Nat} {h : Hp} : Fr mods h h := fun _ _ => ⟨rfl, rfl⟩
def Res (mods : List Nat) (q : Smi) (pc : Nat) (cls : List (Option Value)) (cst : List Value) (h : Hp) (l : List (Nat × AS)) (rho : List Int) : Prop :=
  ∃ (c' : Cfg) (e : Nat × AS) (t : List Int), fl_step q (pc, cls, cst, h, fl_tot) = some (.inl c') ∧ e ∈ l ∧ e.1 = c'.1 ∧ Gm (rho ++ t) e.2 c'.2.1 c'.2.2.1 c'.2.2.2.1 ∧ TInv c'.2.2.2.1 ∧ c'.2.2.2.2 = fl_tot ∧ Fr mods h c'.2.2.2.1
theorem ab_klK : ((List.range 1000).all fun r => match ab_K[ab_kd r]? with
  | some (code, size, _) => decide (ab_kd r = 0) || (decide (r < 285) && decide (fl_lay r = (code, size)))
  | none => true) = true := by decide +kernel
theorem ab_kdK {r code size : Nat} {tys : List TY} (h1 : 1 ≤ ab_kd r) (h2 : ab_K[ab_kd r]? = some (code, size, tys)) : r < fl_tot ∧ fl_lay r = (code, size) := by
  by_cases hr : r < 1000
  · have h3 := List.all_eq_true.mp ab_klK r (List.mem_range.mpr hr)
    rw [h2] at h3
    simp only [Bool.or_eq_true, Bool.and_eq_true, decide_eq_true_eq] at h3
    rcases h3 with h3 | h3
    · omega
    · exact ⟨h3.1, h3.2⟩
  · exfalso
    unfold ab_kd at h1 h2
    rw [if_neg hr] at h1 h2
    split at h1
    · omega
    · rename_i h9
      rw [if_neg h9] at h2
      have : ab_K.length < 9999 := by decide +kernel
      rw [List.getElem?_eq_none (by omega)] at h2
      cases h2
theorem ab_kd0 {r : Nat} (h : ab_kd r = 0) : 1000 ≤ r ∧ r < 1010 := by
  by_cases hr : r < 1000
  · exfalso
    have : ((List.range 1000).all fun r => decide (ab_kd r ≠ 0)) = true := by decide +kernel
    exact of_decide_eq_true (List.all_eq_true.mp this r (List.mem_range.mpr hr)) h
  · unfold ab_kd at h
    rw [if_neg hr] at h
    split at h
    · omega
    · cases h
theorem gs_cons {rho : List Int} {a : AV} {s : List AV} {v : Value} {vs : List Value} (h1 : gv rho a v) (h2 : gs rho s vs) : gs rho (a :: s) (v :: vs) := ⟨v, vs, rfl, h1, h2⟩
theorem nil_app {rho : List Int} : rho ++ [] = rho := List.append_nil rho
section ABS
variable {mods : List Nat} {a : List Int} {nx pc : Nat} {ls st : List AV} {env : List (Int × Int)} {ca : List (Nat × Nat × Nat × AV)} {l : List (Nat × AS)} {rho : List Int} {cls : List (Option Value)} {cst : List Value} {h : Hp}
/-- no write: the state behind the step fits -/
theorem res_pure {q : Smi} {e : Nat × AS} {t : List Int} {pc' : Nat} {cls' : List (Option Value)} {cst' : List Value} (hT : TInv h) (hs : fl_step q (pc, cls, cst, h, fl_tot) = some (.inl (pc', cls', cst', h, fl_tot))) (he : e ∈ l) (h1 : e.1 = pc') (hG : Gm (rho ++ t) e.2 cls' cst' h) : Res mods q pc cls cst h l rho := ⟨_, e, t, hs, he, h1, hG, hT, rfl, Fr.rfl'⟩
theorem one_cat {a : AV} {v : Value} (h1 : ab_one a = true) (h : gv rho a v) : v.category = 1 := by
  simp only [ab_one, Bool.or_eq_true, beq_iff_eq] at h1
  unfold gv at h
  rcases h1 with ((h1 | h1) | h1) | h1 <;> rw [h1] at h
  · obtain ⟨x, y, -, rfl, -⟩ := h; rfl
  · obtain ⟨r, -, rfl, -⟩ := h; rfl
  · rw [h]; rfl
  · obtain ⟨x, -, h⟩ := h
    rcases h with ⟨-, rfl⟩ | ⟨r, -, rfl, -⟩ <;> rfl
theorem sort_is {t : Int} {a : AV} {v : Value} (h1 : ab_sort t a = true) (h : gv rho a v) : fl_is t v = true ∧ a.1 ≠ 0 := by
  simp only [ab_sort, Bool.or_eq_true, Bool.and_eq_true, beq_iff_eq] at h1
  unfold gv at h
  rcases h1 with (⟨rfl, h1⟩ | ⟨rfl, h1⟩) | ⟨rfl, (h1 | h1) | h1⟩ <;> rw [h1] at h
  · obtain ⟨x, y, -, rfl, -⟩ := h; exact ⟨rfl, by rw [h1]; decide⟩
  · obtain ⟨x, rfl⟩ := h; exact ⟨rfl, by rw [h1]; decide⟩
  · obtain ⟨r, -, rfl, -⟩ := h; exact ⟨rfl, by rw [h1]; decide⟩
  · rw [h]; exact ⟨rfl, by rw [h1]; decide⟩
  · obtain ⟨x, -, h⟩ := h
    rcases h with ⟨-, rfl⟩ | ⟨r, -, rfl, -⟩ <;> exact ⟨rfl, by rw [h1]; decide⟩
theorem sort_ne0 {t : Int} {a : AV} (h1 : ab_sort t a = true) : a.1 ≠ 0 := by
  simp only [ab_sort, Bool.or_eq_true, Bool.and_eq_true, beq_iff_eq] at h1
  rcases h1 with (⟨-, h1⟩ | ⟨-, h1⟩) | ⟨-, (h1 | h1) | h1⟩ <;> rw [h1] <;> decide
theorem store_ok {i : Nat} {v : AV} {ls' : List AV} {w : Value} (hs : ab_store ls i v = some ls') (g : gl rho ls cls) (hv : gv rho v w) : ∃ cls', fl_store cls i w = some cls' ∧ gl rho ls' cls' := by
  unfold ab_store at hs
  split at hs
  · rename_i hpre
    have hno : fl_nolong cls i = true := by
      cases i with
      | zero => rfl
      | succ j =>
        show (match cls[j]? with
          | some (some v) => v.category == 1
          | _ => true) = true
        unfold ab_nl at hpre
        split
        · rename_i u hu
          have hlt : j < ls.length := by
            have := (List.getElem?_eq_some_iff.mp hu).1
            rw [g.1]; exact this
          have hb : ls[j]? = some ls[j] := List.getElem?_eq_getElem hlt
          simp only [hb, bne_iff_ne, ne_eq] at hpre
          have g2 := g.2 j _ hb
          by_cases h0 : (ls[j]).1 = 0
          · rw [g2.1 h0 u hu]; rfl
          · obtain ⟨v', e1, e2⟩ := g2.2 h0
            rw [hu] at e1
            cases e1
            have hc : u.category = 1 := by
              unfold gv at e2
              split at e2
              · obtain ⟨x, y, -, rfl, -⟩ := e2; rfl
              · obtain ⟨r, -, rfl, -⟩ := e2; rfl
              · rw [e2]; rfl
              · obtain ⟨x, -, e2⟩ := e2
                rcases e2 with ⟨-, rfl⟩ | ⟨r, -, rfl, -⟩ <;> rfl
              · rename_i h5; exact absurd h5 hpre
              · exact e2
            rw [hc]; rfl
        · rfl
    split at hs
    · rename_i h5
      split at hs
      · rename_i hlt
        cases hs
        unfold gv at hv
        rw [h5] at hv
        obtain ⟨x, rfl⟩ := hv
        refine ⟨(cls.set i (some (.long x))).set (i + 1) none, ?_, ?_⟩
        · unfold fl_store
          rw [if_pos hno]
          exact if_pos (by rw [← g.1]; exact hlt)
        · refine ⟨by simp [g.1], fun k b hk => ?_⟩
          by_cases hk1 : k = i + 1
          · subst hk1
            rw [List.getElem?_set_self (by simpa using hlt)] at hk
            cases hk
            refine ⟨fun _ u hu => ?_, fun z => absurd rfl z⟩
            rw [List.getElem?_set_self (by simpa [← g.1] using hlt)] at hu
            cases hu
          · rw [List.getElem?_set_ne (Ne.symm hk1)] at hk ⊢
            by_cases hk0 : k = i
            · subst hk0
              rw [List.getElem?_set_self (by omega)] at hk
              cases hk
              rw [List.getElem?_set_self (by rw [← g.1]; omega)]
              exact ⟨fun z => absurd (h5.symm.trans z) (by decide), fun _ => ⟨_, rfl, by unfold gv; rw [h5]; exact ⟨x, rfl⟩⟩⟩
            · rw [List.getElem?_set_ne (Ne.symm hk0)] at hk ⊢
              exact g.2 k b hk
      · cases hs
    · split at hs
      · rename_i h5 h1
        split at hs
        · rename_i hlt
          cases hs
          have hc := one_cat h1 hv
          have hlt' : i < cls.length := by rw [← g.1]; exact hlt
          have hne : v.1 ≠ 0 := by
            simp only [ab_one, Bool.or_eq_true, beq_iff_eq] at h1
            omega
          refine ⟨cls.set i (some w), ?_, ?_⟩
          · unfold fl_store
            rw [if_pos hno]
            simp only [ab_one, Bool.or_eq_true, beq_iff_eq] at h1
            unfold gv at hv
            rcases h1 with ((h1 | h1) | h1) | h1 <;> rw [h1] at hv
            · obtain ⟨x, y, -, rfl, -⟩ := hv; exact if_pos hlt'
            · obtain ⟨r, -, rfl, -⟩ := hv; exact if_pos hlt'
            · rw [hv]; exact if_pos hlt'
            · obtain ⟨x, -, hv⟩ := hv
              rcases hv with ⟨-, rfl⟩ | ⟨r, -, rfl, -⟩ <;> exact if_pos hlt'
          · refine ⟨by simp [g.1], fun k b hk => ?_⟩
            by_cases hk0 : k = i
            · subst hk0
              rw [List.getElem?_set_self hlt] at hk
              cases hk
              rw [List.getElem?_set_self hlt']
              exact ⟨fun z => absurd z hne, fun _ => ⟨_, rfl, hv⟩⟩
            · rw [List.getElem?_set_ne (Ne.symm hk0)] at hk ⊢
              exact g.2 k b hk
        · cases hs
      · cases hs
  · cases hs
theorem as1 (hq : ab_step mods (1, a, nx) (ls, st, env, ca) = some l) (G : Gm rho (ls, st, env, ca) cls cst h) (hT : TInv h) : Res mods (1, a, nx) pc cls cst h l rho := by
  simp only [ab_step] at hq
  split at hq
  · rename_i v
    split at hq
    · rename_i hc
      cases hq
      rw [Bool.and_eq_true] at hc
      have hl := lim_of hc.1
      have h0 : rho[0]? = some 0 := by
        have h2 := hc.2
        unfold ab_z at h2
        split at h2
        · rename_i b t
          have hb : b = (0, 0) := eq_of_beq h2
          obtain ⟨x, e1, e2⟩ := G.1.2 0 b rfl
          subst hb
          simp only at e2
          rw [e1]
          congr 1
          omega
        · cases h2
      refine res_pure (t := []) hT rfl List.mem_cons_self rfl ?_
      rw [nil_app]
      refine ⟨G.1, G.2.1, gs_cons ⟨0, Int32.ofInt v, h0, rfl, ?_⟩ G.2.2.1, G.2.2.2⟩
      rw [Int32.toInt_ofInt_of_le (by omega) (by omega)]
      simp
    · cases hq
  · cases hq
theorem as2 (hq : ab_step mods (2, a, nx) (ls, st, env, ca) = some l) (G : Gm rho (ls, st, env, ca) cls cst h) (hT : TInv h) : Res mods (2, a, nx) pc cls cst h l rho := by
  simp only [ab_step] at hq
  split at hq
  · rename_i i t
    split at hq
    · rename_i v hv
      split at hq
      · rename_i hs
        cases hq
        obtain ⟨w, e1, e2⟩ := (G.2.1.2 _ _ hv).2 (sort_ne0 hs)
        have e3 := (sort_is hs e2).1
        refine res_pure (t := []) hT (by simp only [fl_step, e1, if_pos e3] <;> rfl) List.mem_cons_self rfl ?_
        rw [nil_app]
        exact ⟨G.1, G.2.1, gs_cons e2 G.2.2.1, G.2.2.2⟩
      · cases hq
    · cases hq
  · cases hq
theorem as3 (hq : ab_step mods (3, a, nx) (ls, st, env, ca) = some l) (G : Gm rho (ls, st, env, ca) cls cst h) (hT : TInv h) : Res mods (3, a, nx) pc cls cst h l rho := by
  simp only [ab_step] at hq
  split at hq
  · rename_i i t v st
    split at hq
    · rename_i hs
      split at hq
      · rename_i ls' hls
        cases hq
        obtain ⟨w, cst', rfl, hv, hst⟩ := G.2.2.1
        obtain ⟨cls', e1, e2⟩ := store_ok hls G.2.1 hv
        refine res_pure (t := []) hT (by simp only [fl_step, if_pos (sort_is hs hv).1, e1] <;> rfl) List.mem_cons_self rfl ?_
        rw [nil_app]
        exact ⟨G.1, e2, hst, G.2.2.2⟩
      · cases hq
    · cases hq
  · cases hq
theorem as4 (hq : ab_step mods (4, a, nx) (ls, st, env, ca) = some l) (G : Gm rho (ls, st, env, ca) cls cst h) (hT : TInv h) : Res mods (4, a, nx) pc cls cst h l rho := by
  simp only [ab_step] at hq
  split at hq
  · rename_i i d
    split at hq
    · rename_i v hv
      split at hq
      · rename_i b hb
        split at hq
        · rename_i hd
          have hv1 : v.1 ≠ 0 := by
            unfold ab_bnd at hb
            split at hb
            · rename_i z; rw [z]; decide
            · cases hb
          obtain ⟨w, e1, e2⟩ := (G.2.1.2 _ _ hv).2 hv1
          obtain ⟨y, k1, rfl, k2, k3⟩ := bnd_ok G.1 e2 hb
          have hdl := lim_of hd
          have hdi : (Int32.ofInt d).toInt = d := Int32.toInt_ofInt_of_le (by omega) (by omega)
          split at hq
          · rename_i hl
            have hl := lim_of hl
            split at hq
            · rename_i ls' hls
              cases hq
              have hsum : (y + Int32.ofInt d).toInt = y.toInt + d := by rw [Int32.toInt_add, hdi, i_bm (by omega) (by omega)]
              obtain ⟨cls', z1, z2⟩ := store_ok (w := .int (y + Int32.ofInt d)) hls G.2.1 (gv_mk (by rw [k3, hsum]; congr 1; omega))
              refine res_pure (t := []) hT (by simp only [fl_step, e1, z1] <;> rfl) List.mem_cons_self rfl ?_
              rw [nil_app]
              exact ⟨G.1, z2, G.2.2.1, G.2.2.2⟩
            · cases hq
          · split at hq
            · rename_i ls' hls
              cases hq
              have hga := ga_push (x := (y + Int32.ofInt d).toInt) (b := ab_full) G.1 (Or.inr (i_rng _))
              obtain ⟨cls', z1, z2⟩ := store_ok (w := .int (y + Int32.ofInt d)) hls (gl_ext (t := [(y + Int32.ofInt d).toInt]) G.2.1) (gv_mk (by rw [ga_last G.1]; congr 1; omega))
              refine res_pure (t := [(y + Int32.ofInt d).toInt]) hT (by simp only [fl_step, e1, z1] <;> rfl) List.mem_cons_self rfl ?_
              exact ⟨hga, z2, gs_ext G.2.2.1, gc_ext G.2.2.2⟩
            · cases hq
        · cases hq
      · cases hq
    · cases hq
  · cases hq
theorem as5 (hq : ab_step mods (5, a, nx) (ls, st, env, ca) = some l) (G : Gm rho (ls, st, env, ca) cls cst h) (hT : TInv h) : Res mods (5, a, nx) pc cls cst h l rho := by
  simp only [ab_step] at hq
  split at hq
  · rename_i o y x st
    obtain ⟨wy, cst1, rfl, hy, hst1⟩ := G.2.2.1
    obtain ⟨wx, cst2, rfl, hx, hst2⟩ := hst1
    split at hq
    · rename_i bx by' hbx hby
      obtain ⟨vx, kx1, rfl, kx2, kx3⟩ := bnd_ok G.1 hx hbx
      obtain ⟨vy, ky1, rfl, ky2, ky3⟩ := bnd_ok G.1 hy hby
      split at hq
      · rename_i hc
        cases hq
        obtain ⟨rfl, hc2, hc3⟩ := hc
        have hl := lim_of hc3
        refine res_pure (t := []) hT (by simp only [fl_step, fl_bin] <;> rfl) List.mem_cons_self rfl ?_
        rw [nil_app]
        refine ⟨G.1, G.2.1, gs_cons (gv_mk ?_) hst2, G.2.2.2⟩
        rw [kx3, Int32.toInt_add, i_bm (by omega) (by omega)]
        congr 1
        omega
      · split at hq
        · rename_i hc
          cases hq
          obtain ⟨rfl, hc2, hc3⟩ := hc
          have hl := lim_of hc3
          refine res_pure (t := []) hT (by simp only [fl_step, fl_bin] <;> rfl) List.mem_cons_self rfl ?_
          rw [nil_app]
          refine ⟨G.1, G.2.1, gs_cons (gv_mk ?_) hst2, G.2.2.2⟩
          rw [ky3, Int32.toInt_add, i_bm (by omega) (by omega)]
          congr 1
          omega
        · split at hq
          · rename_i hc
            cases hq
            obtain ⟨rfl, hc2, hc3⟩ := hc
            have hl := lim_of hc3
            refine res_pure (t := []) hT (by simp only [fl_step, fl_bin] <;> rfl) List.mem_cons_self rfl ?_
            rw [nil_app]
            refine ⟨G.1, G.2.1, gs_cons (gv_mk ?_) hst2, G.2.2.2⟩
            rw [kx3, Int32.toInt_sub, i_bm (by omega) (by omega)]
            congr 1
            omega
          · split at hq
            · rename_i b hb
              cases hq
              obtain ⟨z, e1, e2⟩ := bin_ok kx2 ky2 hb
              refine res_pure (t := [z.toInt]) hT (by simp only [fl_step, e1] <;> rfl) List.mem_cons_self rfl ?_
              exact ⟨ga_push G.1 (Or.inr e2), gl_ext G.2.1, gs_cons (gv_mk (by rw [ga_last G.1]; congr 1; omega)) (gs_ext hst2), gc_ext G.2.2.2⟩
            · cases hq
    · cases hq
  · cases hq
theorem ga_setv {v : AV} {y : Int32} {b : Int × Int} (g : ga rho env) (hr : rho[v.2.1]? = some (y.toInt - v.2.2)) (hb : b.1 ≤ y.toInt ∧ y.toInt ≤ b.2) : ga rho (ab_set env v b) := ga_set g hr ⟨by simp only; omega, by simp only; omega⟩
theorem as6 (hq : ab_step mods (6, a, nx) (ls, st, env, ca) = some l) (G : Gm rho (ls, st, env, ca) cls cst h) (hT : TInv h) : Res mods (6, a, nx) pc cls cst h l rho := by
  simp only [ab_step] at hq
  split at hq
  · rename_i o t x st
    obtain ⟨wx, cst1, rfl, hx, hst1⟩ := G.2.2.1
    split at hq
    · rename_i bx hbx
      obtain ⟨vx, kx1, rfl, kx2, kx3⟩ := bnd_ok G.1 hx hbx
      split at hq
      · rename_i ho
        cases hq
        obtain ⟨⟨b, hb⟩, hneg⟩ := cmp_neg (x := vx) (y := 0) ho
        have hz : ((0, 0) : Int × Int).1 ≤ (0 : Int32).toInt ∧ (0 : Int32).toInt ≤ ((0, 0) : Int × Int).2 := by decide
        have hs : fl_step (6, [o, t], nx) (pc, cls, .int vx :: cst1, h, fl_tot) = some (.inl (if b then t.toNat else nx, cls, cst1, h, fl_tot)) := by simp only [fl_step, hb]
        cases b with
        | true =>
          obtain ⟨r, e1, e2, -⟩ := cmp_ok kx2 hz hb
          rw [e1]
          refine res_pure (t := []) hT hs (List.mem_append_left _ List.mem_cons_self) rfl ?_
          rw [nil_app]
          exact ⟨ga_setv G.1 kx3 e2, G.2.1, hst1, G.2.2.2⟩
        | false =>
          obtain ⟨r, e1, e2, -⟩ := cmp_ok kx2 hz (hneg hb)
          rw [e1]
          refine res_pure (t := []) hT hs (List.mem_append_right _ List.mem_cons_self) rfl ?_
          rw [nil_app]
          exact ⟨ga_setv G.1 kx3 e2, G.2.1, hst1, G.2.2.2⟩
      · cases hq
    · cases hq
  · cases hq
theorem as7 (hq : ab_step mods (7, a, nx) (ls, st, env, ca) = some l) (G : Gm rho (ls, st, env, ca) cls cst h) (hT : TInv h) : Res mods (7, a, nx) pc cls cst h l rho := by
  simp only [ab_step] at hq
  split at hq
  · rename_i o t y x st
    obtain ⟨wy, cst1, rfl, hy, hst1⟩ := G.2.2.1
    obtain ⟨wx, cst2, rfl, hx, hst2⟩ := hst1
    split at hq
    · rename_i bx by' hbx hby
      obtain ⟨vx, kx1, rfl, kx2, kx3⟩ := bnd_ok G.1 hx hbx
      obtain ⟨vy, ky1, rfl, ky2, ky3⟩ := bnd_ok G.1 hy hby
      split at hq
      · rename_i ho
        cases hq
        obtain ⟨⟨b, hb⟩, hneg⟩ := cmp_neg (x := vx) (y := vy) ho
        have hs : fl_step (7, [o, t], nx) (pc, cls, .int vy :: .int vx :: cst2, h, fl_tot) = some (.inl (if b then t.toNat else nx, cls, cst2, h, fl_tot)) := by simp only [fl_step, hb]
        have hset : ∀ r : (Int × Int) × (Int × Int), (r.1.1 ≤ vx.toInt ∧ vx.toInt ≤ r.1.2) → (r.2.1 ≤ vy.toInt ∧ vy.toInt ≤ r.2.2) → ga rho (if x.2.1 = y.2.1 then env else ab_set (ab_set env x r.1) y r.2) := by
          intro r e2 e3
          split
          · exact G.1
          · exact ga_setv (ga_setv G.1 kx3 e2) ky3 e3
        cases b with
        | true =>
          obtain ⟨r, e1, e2, e3⟩ := cmp_ok kx2 ky2 hb
          rw [e1]
          refine res_pure (t := []) hT hs (List.mem_append_left _ List.mem_cons_self) rfl ?_
          rw [nil_app]
          exact ⟨hset r e2 e3, G.2.1, hst2, G.2.2.2⟩
        | false =>
          obtain ⟨r, e1, e2, e3⟩ := cmp_ok kx2 ky2 (hneg hb)
          rw [e1]
          refine res_pure (t := []) hT hs (List.mem_append_right _ List.mem_cons_self) rfl ?_
          rw [nil_app]
          exact ⟨hset r e2 e3, G.2.1, hst2, G.2.2.2⟩
      · cases hq
    · cases hq
  · cases hq
theorem as8 (hq : ab_step mods (8, a, nx) (ls, st, env, ca) = some l) (G : Gm rho (ls, st, env, ca) cls cst h) (hT : TInv h) : Res mods (8, a, nx) pc cls cst h l rho := by
  simp only [ab_step] at hq
  split at hq
  · cases hq
    refine res_pure (t := []) hT rfl List.mem_cons_self rfl ?_
    rw [nil_app]
    exact G
  · cases hq
end ABS
