/-! a contract that the checker accepts holds -/
def aOK : List TY → List Value → Prop
  | [], vs => vs = []
  | t :: ts, vs => ∃ v w, vs = v :: w ∧ valOK t v ∧ aOK ts w
def pOK (as : List Value) (h : Hp) (p : Nat × Nat × Int × Int) : Prop := ∃ r : Nat, as[p.1]? = some (.ref r) ∧ p.2.2.1 ≤ (h.1 r p.2.1).toInt ∧ (h.1 r p.2.1).toInt ≤ p.2.2.2
def qOK (as : List Value) (h : Hp) (p : Nat × Nat × Int × Int) : Prop := if p.2.1 = 9999 then ∃ x : Int32, as[p.1]? = some (.int x) ∧ p.2.2.1 ≤ x.toInt ∧ x.toInt ≤ p.2.2.2 else pOK as h p
def truthy (v : Option Value) : Prop := (∃ x : Int32, v = some (.int x) ∧ x ≠ 0) ∨ ∃ r : Nat, v = some (.ref r)
def retOK (t : TY) (v : Option Value) : Prop := if t.1 = 9 then v = none else ∃ w, v = some w ∧ valOK t w
/-- what a run of a method comes to -/
def Gd (c : CT) (as : List Value) (h0 : Hp) (pc : Nat) (ls : List (Option Value)) (st : List Value) (h : Hp) : Prop :=
  ∃ (v : Option Value) (h' : Hp), Ev c.2.1 c.1 (pc, ls, st, h, fl_tot) (v, h', fl_tot) ∧ TInv h' ∧ retOK c.2.2.2.1 v ∧ Fr c.2.2.2.2.1 h0 h' ∧ (truthy v → ∀ p ∈ c.2.2.2.2.2.2, qOK as h' p)
def CV (c : CT) : Prop := ∀ (as : List Value) (h : Hp), TInv h → aOK c.2.2.1 as → (∀ p ∈ c.2.2.2.2.2.1, pOK as h p) → ∃ y, sm_ms[c.1]? = some y ∧ (fl_args as).length ≤ y.2.2.1 ∧ Gd c as h 0 (fl_enter y.2.2.1 as) [] h
theorem Fr.trans {mods : List Nat} {h1 h2 h3 : Hp} (a : Fr mods h1 h2) (b : Fr mods h2 h3) : Fr mods h1 h3 := fun r hr => ⟨(b r hr).1.trans (a r hr).1, (b r hr).2.trans (a r hr).2⟩
theorem Fr.wide {m1 m2 : List Nat} {h1 h2 : Hp} (hs : ∀ x ∈ m1, x ∈ m2) (a : Fr m1 h1 h2) : Fr m2 h1 h2 := fun r hr => a r (fun z => hr (hs _ z))
theorem step_all {mods : List Nat} {q : Smi} {pc : Nat} {ls st : List AV} {env : List (Int × Int)} {ca : List (Nat × Nat × Nat × AV)} {l : List (Nat × AS)} {rho : List Int} {cls : List (Option Value)} {cst : List Value} {h : Hp} (hq : ab_step mods q (ls, st, env, ca) = some l) (G : Gm rho (ls, st, env, ca) cls cst h) (hT : TInv h) : Res mods q pc cls cst h l rho := by
  obtain ⟨op, a, nx⟩ := q
  have hq0 := hq
  unfold ab_step at hq
  simp only at hq
  split at hq
  · exact as1 hq0 G hT
  · exact as2 hq0 G hT
  · exact as3 hq0 G hT
  · exact as4 hq0 G hT
  · exact as5 hq0 G hT
  · exact as6 hq0 G hT
  · exact as7 hq0 G hT
  · exact as8 hq0 G hT
  · exact as9 hq0 G hT
  · exact as10 hq0 G hT
  · exact as11 hq0 G hT
  · exact as12 hq0 G hT
  · exact as13 hq0 G hT
  · exact as14 hq0 G hT
  · exact as15 hq0 G hT
  · exact as16 hq0 G hT
  · exact as17 hq0 G hT
  · exact as25 hq0 G hT
  · exact as26 hq0 G hT
  · exact as27 hq0 G hT
  · exact as28 hq0 G hT
  · exact as32 hq0 G hT
  · exact as33 hq0 G hT
  · exact as34 hq0 G hT
  · exact as35 hq0 G hT
  · exact as36 hq0 G hT
  · exact as37 hq0 G hT
  · exact as38 hq0 G hT
  · exact as39 hq0 G hT
  · exact as40 hq0 G hT
  · exact as41 hq0 G hT
  · cases hq
/-! fresh values of types -/
def lOK : List TY → List (Option Value) → Prop
  | [], os => os = []
  | t :: ts, os => ∃ o w, os = o :: w ∧ (if t.1 = 1 ∨ t.1 = 2 ∨ t.1 = 4 ∨ t.1 = 5 then ∃ v, o = some v ∧ valOK t v else ∀ v, o = some v → v.category = 1) ∧ lOK ts w
theorem gl_cons {rho : List Int} {a : AV} {l : List AV} {o : Option Value} {os : List (Option Value)} (h1 : (a.1 = 0 → ∀ v, o = some v → v.category = 1) ∧ (a.1 ≠ 0 → ∃ v, o = some v ∧ gv rho a v)) (h2 : gl rho l os) : gl rho (a :: l) (o :: os) := by
  refine ⟨by simp [h2.1], fun i b hb => ?_⟩
  cases i with
  | zero =>
    cases hb
    exact ⟨fun z v hv => h1.1 z v (Option.some.inj hv), fun z => by obtain ⟨v, e1, e2⟩ := h1.2 z; exact ⟨v, by rw [e1]; rfl, e2⟩⟩
  | succ i => exact h2.2 i b hb
theorem mk_ok : ∀ (ts : List TY) (os : List (Option Value)) (env : List (Int × Int)) (rho : List Int), ga rho env → lOK ts os → ∃ t, ga (rho ++ t) (ab_mk env ts).2 ∧ gl (rho ++ t) (ab_mk env ts).1 os
  | [], os, env, rho, g, h => by
    have : os = [] := h
    subst this
    exact ⟨[], by rw [nil_app]; exact g, rfl, fun i a hi => by simp [ab_mk] at hi⟩
  | t :: ts, os, env, rho, g, h => by
    obtain ⟨o, w, rfl, h1, h2⟩ := h
    unfold ab_mk
    by_cases t1 : t.1 = 1
    · rw [if_pos (Or.inl t1)] at h1
      obtain ⟨v, rfl, hv⟩ := h1
      obtain ⟨y, rfl, hy⟩ := val_int t1 hv
      obtain ⟨x, g1, g2⟩ := mk_ok ts w _ _ (ga_push (x := y.toInt) (b := (t.2.1, t.2.2)) g (Or.inr hy)) h2
      rw [if_pos t1]
      refine ⟨[y.toInt] ++ x, by rw [← List.append_assoc]; exact g1, gl_cons ⟨fun z => (by cases z), fun _ => ⟨_, rfl, ?_⟩⟩ (by rw [← List.append_assoc]; exact g2)⟩
      rw [← List.append_assoc]
      exact gv_ext (gv_mk (by rw [ga_last g]; simp))
    · rw [if_neg t1]
      by_cases t2 : t.1 = 2
      · rw [if_pos (Or.inr (Or.inl t2))] at h1
        obtain ⟨v, rfl, hv⟩ := h1
        unfold valOK at hv
        rw [t2] at hv
        obtain ⟨r, rfl, hr⟩ := hv
        obtain ⟨x, g1, g2⟩ := mk_ok ts w _ _ (ga_push (x := (r : Int)) (b := (1, 0)) g (Or.inl (by decide))) h2
        rw [if_pos t2]
        refine ⟨[(r : Int)] ++ x, by rw [← List.append_assoc]; exact g1, gl_cons ⟨fun z => (by cases z), fun _ => ⟨_, rfl, ?_⟩⟩ (by rw [← List.append_assoc]; exact g2)⟩
        rw [← List.append_assoc]
        exact gv_ext ⟨r, ga_last g, rfl, hr⟩
      · rw [if_neg t2]
        by_cases t4 : t.1 = 4
        · rw [if_pos (Or.inr (Or.inr (Or.inl t4)))] at h1
          obtain ⟨v, rfl, hv⟩ := h1
          unfold valOK at hv
          rw [t4] at hv
          rw [if_pos t4]
          rcases hv with rfl | ⟨r, rfl, hr⟩
          · obtain ⟨x, g1, g2⟩ := mk_ok ts w _ _ (ga_push (x := -1) (b := (1, 0)) g (Or.inl (by decide))) h2
            refine ⟨[-1] ++ x, by rw [← List.append_assoc]; exact g1, gl_cons ⟨fun z => (by cases z), fun _ => ⟨_, rfl, ?_⟩⟩ (by rw [← List.append_assoc]; exact g2)⟩
            rw [← List.append_assoc]
            exact gv_ext ⟨-1, ga_last g, Or.inl ⟨rfl, rfl⟩⟩
          · obtain ⟨x, g1, g2⟩ := mk_ok ts w _ _ (ga_push (x := (r : Int)) (b := (1, 0)) g (Or.inl (by decide))) h2
            refine ⟨[(r : Int)] ++ x, by rw [← List.append_assoc]; exact g1, gl_cons ⟨fun z => (by cases z), fun _ => ⟨_, rfl, ?_⟩⟩ (by rw [← List.append_assoc]; exact g2)⟩
            rw [← List.append_assoc]
            exact gv_ext ⟨_, ga_last g, Or.inr ⟨r, rfl, rfl, hr⟩⟩
        · rw [if_neg t4]
          by_cases t5 : t.1 = 5
          · rw [if_pos (Or.inr (Or.inr (Or.inr t5)))] at h1
            obtain ⟨v, rfl, hv⟩ := h1
            unfold valOK at hv
            rw [t5] at hv
            obtain ⟨z5, rfl⟩ := hv
            obtain ⟨x, g1, g2⟩ := mk_ok ts w _ _ g h2
            rw [if_pos t5]
            exact ⟨x, g1, gl_cons ⟨fun z => (by cases z), fun _ => ⟨_, rfl, ⟨z5, rfl⟩⟩⟩ g2⟩
          · rw [if_neg (by omega)] at h1
            obtain ⟨x, g1, g2⟩ := mk_ok ts w _ _ g h2
            rw [if_neg t5]
            exact ⟨x, g1, gl_cons ⟨fun _ => h1, fun z => absurd rfl z⟩ g2⟩
theorem gs_of_gl {rho : List Int} : ∀ {avs : List AV} {vs : List Value}, gl rho avs (vs.map some) → gs rho avs vs
  | [], vs, h => by
    have := h.1
    cases vs with
    | nil => rfl
    | cons v vs => simp at this
  | a :: l, vs, h => by
    cases vs with
    | nil => have := h.1; simp at this
    | cons v vs =>
      refine ⟨v, vs, rfl, ?_, gs_of_gl ⟨by have := h.1; simpa using this, fun i b hi => h.2 (i + 1) b hi⟩⟩
      have h0 := h.2 0 a rfl
      by_cases z : a.1 = 0
      · have := h0.1 z v rfl
        unfold gv
        rw [z]
        exact this
      · obtain ⟨w, e1, e2⟩ := h0.2 z
        have e1 : some v = some w := Option.some.inj e1
        cases e1
        exact e2
theorem aOK_l : ∀ {ts : List TY} {vs : List Value}, aOK ts vs → lOK ts (vs.map some)
  | [], _, h => by
    have : _ = [] := h
    subst this
    rfl
  | t :: ts, _, ⟨v, w, h1, h2, h3⟩ => by
    subst h1
    refine ⟨some v, w.map some, rfl, ?_, aOK_l h3⟩
    split
    · exact ⟨v, rfl, h2⟩
    · rename_i hn
      intro u hu
      cases hu
      unfold valOK at h2
      split at h2 <;> first | (exfalso; omega) | exact h2
theorem fitl_l {rho : List Int} {env : List (Int × Int)} (g : ga rho env) : ∀ {l : List AV} {ts : List TY} {os : List (Option Value)}, ab_fitl env l ts = true → gl rho l os → lOK ts os
  | [], [], os, _, h => by
    have := h.1
    cases os with
    | nil => rfl
    | cons o os => simp at this
  | [], _ :: _, _, hf, _ => by cases hf
  | _ :: _, [], _, hf, _ => by cases hf
  | a :: l, t :: ts, os, hf, h => by
    cases os with
    | nil => have := h.1; simp at this
    | cons o os =>
      unfold ab_fitl at hf
      rw [Bool.and_eq_true] at hf
      refine ⟨o, os, rfl, ?_, fitl_l g hf.2 ⟨by have := h.1; simpa using this, fun i b hi => h.2 (i + 1) b hi⟩⟩
      have h0 := h.2 0 a rfl
      have e0 : ∀ v, (o :: os)[0]? = some (some v) ↔ o = some v := fun v => by simp
      split
      · rename_i ht
        have hne : a.1 ≠ 0 := by
          intro z
          have := hf.1
          unfold ab_fits ab_bnd at this
          rcases ht with ht | ht | ht | ht <;> rw [ht] at this <;> simp [z] at this
        obtain ⟨v, e1, e2⟩ := h0.2 hne
        exact ⟨v, (e0 v).mp e1, fits_ok g hf.1 e2⟩
      · rename_i ht
        intro v hv
        by_cases z : a.1 = 0
        · exact h0.1 z v ((e0 v).mpr hv)
        · obtain ⟨w, e1, e2⟩ := h0.2 z
          rw [(e0 w).mp e1] at hv
          cases hv
          have h9 := fits_ok g hf.1 e2
          unfold valOK at h9
          split at h9 <;> first | (exfalso; omega) | exact h9
theorem gl_of_gs {rho : List Int} : ∀ {avs : List AV} {vs : List Value}, gs rho avs vs → gl rho avs (vs.map some)
  | [], vs, h => by
    have : vs = [] := h
    subst this
    exact ⟨rfl, fun i a hi => by simp at hi⟩
  | a :: l, vs, h => by
    obtain ⟨v, w, rfl, h1, h2⟩ := h
    refine gl_cons ⟨fun z u hu => ?_, fun _ => ⟨v, rfl, h1⟩⟩ (gl_of_gs h2)
    cases hu
    unfold gv at h1
    rw [z] at h1
    exact h1
/-- at a head: the state in the head's own names -/
theorem head_ok {rho : List Int} {s : AS} {hd : HD} {ls : List (Option Value)} {st : List Value} {h : Hp} (G : Gm rho s ls st h) (h1 : ab_fitl s.2.2.1 s.1 hd.1 = true) (h2 : ab_fitl s.2.2.1 s.2.1 hd.2.1 = true) : ∃ rho', Gm rho' (ab_head hd) ls st h := by
  obtain ⟨g1, g2, g3, g4⟩ := G
  have g0 : ga [0] [(0, 0)] := ⟨rfl, fun i b hb => by
    cases i with
    | zero => cases hb; exact ⟨0, rfl, Or.inr ⟨Int.le_refl _, Int.le_refl _⟩⟩
    | succ i => simp at hb⟩
  obtain ⟨t, a1, a2⟩ := mk_ok hd.1 ls [(0, 0)] [0] g0 (fitl_l g1 h1 g2)
  obtain ⟨t2, b1, b2⟩ := mk_ok hd.2.1 (st.map some) _ _ a1 (fitl_l g1 h2 (gl_of_gs g3))
  exact ⟨_, b1, gl_ext a2, gs_of_gl b2, fun e he => by cases he⟩
