/-! CALLS by contract -/
theorem gs_app {rho : List Int} : ∀ {s t : List AV} {vs ws : List Value}, gs rho s vs → gs rho t ws → gs rho (s ++ t) (vs ++ ws)
  | [], _, _, _, h, h2 => by
    have : _ = [] := h
    subst this
    exact h2
  | _ :: _, _, _, _, ⟨v, w, e, h2, h3⟩, h4 => by
    subst e
    exact ⟨v, _, rfl, h2, gs_app h3 h4⟩
theorem gs_rev {rho : List Int} : ∀ {s : List AV} {vs : List Value}, gs rho s vs → gs rho s.reverse vs.reverse
  | [], _, h => by
    have : _ = [] := h
    subst this
    rfl
  | a :: s, _, ⟨v, w, e, h2, h3⟩ => by
    subst e
    rw [List.reverse_cons, List.reverse_cons]
    exact gs_app (gs_rev h3) (gs_cons h2 rfl)
theorem gs_td {rho : List Int} : ∀ (k : Nat) {s : List AV} {vs : List Value}, gs rho s vs → gs rho (s.take k) (vs.take k) ∧ gs rho (s.drop k) (vs.drop k)
  | 0, _, _, h => ⟨rfl, h⟩
  | k + 1, [], _, h => by
    have : _ = [] := h
    subst this
    exact ⟨rfl, rfl⟩
  | k + 1, _ :: _, _, ⟨v, w, e, h2, h3⟩ => by
    subst e
    have ih := gs_td k h3
    exact ⟨⟨v, _, rfl, h2, ih.1⟩, ih.2⟩
theorem gs_len {rho : List Int} : ∀ {s : List AV} {vs : List Value}, gs rho s vs → s.length = vs.length
  | [], _, h => by
    have : _ = [] := h
    subst this
    rfl
  | _ :: _, _, ⟨v, w, e, h2, h3⟩ => by
    subst e
    simp [gs_len h3]
theorem gs_get {rho : List Int} : ∀ {s : List AV} {vs : List Value}, gs rho s vs → ∀ (i : Nat) (a : AV), s[i]? = some a → ∃ v, vs[i]? = some v ∧ gv rho a v
  | [], _, _, i, a, hi => by simp at hi
  | _ :: _, _, ⟨v, w, e, h2, h3⟩, i, a, hi => by
    subst e
    cases i with
    | zero => cases hi; exact ⟨v, rfl, h2⟩
    | succ i => exact gs_get h3 i a hi
theorem gs_aOK {rho : List Int} {env : List (Int × Int)} (g : ga rho env) : ∀ {s : List AV} {ts : List TY} {vs : List Value}, ab_fitl env s ts = true → gs rho s vs → aOK ts vs
  | [], [], _, _, h => h
  | [], _ :: _, _, hf, _ => by cases hf
  | _ :: _, [], _, hf, _ => by cases hf
  | a :: s, t :: ts, _, hf, ⟨v, w, e, h2, h3⟩ => by
    unfold ab_fitl at hf
    rw [Bool.and_eq_true] at hf
    exact ⟨v, w, e, fits_ok g hf.1 h2, gs_aOK g hf.2 h3⟩
theorem post_ok {as : List Value} {h : Hp} {avs : List AV} : ∀ {ps : List (Nat × Nat × Int × Int)} {rho : List Int} {env : List (Int × Int)} {ca : List (Nat × Nat × Nat × AV)} {l : List (List (Int × Int) × List (Nat × Nat × Nat × AV))}, ab_post avs env ca ps = some l → ga rho env → gc rho h ca → gs rho avs as → (∀ p ∈ ps, qOK as h p) → ∃ e ∈ l, ∃ t, ga (rho ++ t) e.1 ∧ gc (rho ++ t) h e.2
  | [], rho, env, ca, l, hp, g1, g4, _, _ => by
    cases hp
    exact ⟨_, List.mem_singleton.mpr rfl, [], by rw [nil_app]; exact g1, by rw [nil_app]; exact g4⟩
  | p :: ps, rho, env, ca, l, hp, g1, g4, ha, hq => by
    unfold ab_post at hp
    split at hp
    · rename_i a hav
      obtain ⟨v, e1, e2⟩ := gs_get ha _ _ hav
      have hq1 := hq p List.mem_cons_self
      unfold qOK at hq1
      split at hp
      · rename_i h9
        rw [if_pos h9] at hq1
        obtain ⟨x, e3, b1, b2⟩ := hq1
        cases e1.symm.trans e3
        split at hp
        · rename_i b hb
          obtain ⟨y, -, e4, k2, k3⟩ := bnd_ok g1 e2 hb
          cases e4
          have hmx : ab_max b.1 p.2.2.1 ≤ x.toInt := by unfold ab_max; split <;> omega
          have hmn : x.toInt ≤ ab_min b.2 p.2.2.2 := by unfold ab_min; split <;> omega
          rw [if_neg (by omega)] at hp
          exact post_ok hp (ga_setv g1 k3 ⟨hmx, hmn⟩) g4 ha (fun z hz => hq z (List.mem_cons_of_mem _ hz))
        · cases hp
      · rename_i h9
        rw [if_neg h9] at hq1
        obtain ⟨r, e3, b1, b2⟩ := hq1
        cases e1.symm.trans e3
        split at hp
        · rename_i h2
          obtain ⟨r', z1, e4, z2⟩ := gv_ref h2.1 e2
          cases e4
          split at hp
          · rename_i code size tys hK
            split at hp
            · rename_i hlt
              obtain ⟨-, hl⟩ := ab_kdK (by rw [z2]; exact h2.2) (by rw [z2]; exact hK)
              obtain ⟨e, he, t, q1, q2⟩ := post_ok (rho := rho ++ [(h.1 r p.2.1).toInt]) hp (ga_push g1 (Or.inr ⟨b1, b2⟩)) (fun e he => by
                rcases List.mem_cons.mp he with rfl | he
                · exact ⟨r, get_ext z1, z2, by rw [hl]; exact hlt, gv_mk (by rw [ga_last g1]; simp)⟩
                · exact gc_ext g4 e he) (gs_ext ha) (fun z hz => hq z (List.mem_cons_of_mem _ hz))
              exact ⟨e, he, [(h.1 r p.2.1).toInt] ++ t, by rw [← List.append_assoc]; exact q1, by rw [← List.append_assoc]; exact q2⟩
            · cases hp
          · cases hp
        · cases hp
    · cases hp
theorem after_ok {cc : CT} {nx : Nat} {als avs rest : List AV} {env : List (Int × Int)} {ca : List (Nat × Nat × Nat × AV)} {l : List (Nat × AS)} {rho : List Int} {ls : List (Option Value)} {as vrest : List Value} {h : Hp} {v : Option Value} (hq : ab_after cc nx als avs rest env ca = some l) (g1 : ga rho env) (g2 : gl rho als ls) (g3 : gs rho rest vrest) (g4 : gc rho h ca) (ha : gs rho avs as)
    (hr : retOK cc.2.2.2.1 v) (ht : truthy v → ∀ p ∈ cc.2.2.2.2.2.2, qOK as h p) : ∃ e ∈ l, e.1 = nx ∧ ∃ t, Gm (rho ++ t) e.2 ls (v.toList ++ vrest) h := by
  unfold ab_after at hq
  unfold retOK at hr
  split at hq
  · rename_i h9
    rw [if_pos h9] at hr
    subst hr
    cases hq
    exact ⟨_, List.mem_singleton.mpr rfl, rfl, [], by rw [nil_app]; exact ⟨g1, g2, g3, g4⟩⟩
  · rename_i h9
    rw [if_neg h9] at hr
    obtain ⟨w, rfl, hw⟩ := hr
    split at hq
    · split at hq
      · rename_i st' env' x hput
        cases hq
        obtain ⟨x, q1, q2, -⟩ := put_ty hput g1 g3 hw
        exact ⟨_, List.mem_singleton.mpr rfl, rfl, x, q1, gl_ext g2, q2, gc_ext g4⟩
      · cases hq
    · split at hq
      · rename_i h1
        split at hq
        · rename_i l0 hpo
          cases hq
          obtain ⟨y, rfl, hy⟩ := val_int h1 hw
          by_cases hz : y = 0
          · subst hz
            refine ⟨_, List.mem_cons_self, rfl, [0], ga_push g1 (Or.inr ⟨Int.le_refl _, Int.le_refl _⟩), gl_ext g2, gs_cons ?_ (gs_ext g3), gc_ext g4⟩
            exact gv_mk (by rw [ga_last g1]; rfl)
          · obtain ⟨e, he, t, q1, q2⟩ := post_ok (rho := rho ++ [y.toInt]) (h := h) hpo (ga_push g1 (Or.inr hy)) (gc_ext g4) (gs_ext ha) (ht (Or.inl ⟨y, rfl, hz⟩))
            refine ⟨_, List.mem_cons_of_mem _ (List.mem_map.mpr ⟨e, he, rfl⟩), rfl, [y.toInt] ++ t, by rw [← List.append_assoc]; exact q1, gl_ext g2, ?_, by rw [← List.append_assoc]; exact q2⟩
            refine gs_cons ?_ (gs_ext g3)
            rw [← List.append_assoc]
            exact gv_ext (gv_mk (by rw [ga_last g1]; simp))
        · cases hq
      · split at hq
        · rename_i h4
          split at hq
          · rename_i l0 hpo
            cases hq
            unfold valOK at hw
            rw [h4] at hw
            rcases hw with rfl | ⟨r, rfl, hk⟩
            · exact ⟨_, List.mem_cons_self, rfl, [], by rw [nil_app]; exact ⟨g1, g2, gs_cons rfl g3, g4⟩⟩
            · obtain ⟨e, he, t, q1, q2⟩ := post_ok (rho := rho ++ [(r : Int)]) (h := h) hpo (ga_push g1 (Or.inl (by decide))) (gc_ext g4) (gs_ext ha) (ht (Or.inr ⟨r, rfl⟩))
              refine ⟨_, List.mem_cons_of_mem _ (List.mem_map.mpr ⟨e, he, rfl⟩), rfl, [(r : Int)] ++ t, by rw [← List.append_assoc]; exact q1, gl_ext g2, ?_, by rw [← List.append_assoc]; exact q2⟩
              refine gs_cons ?_ (gs_ext g3)
              rw [← List.append_assoc]
              exact gv_ext ⟨r, ga_last g1, rfl, hk⟩
          · cases hq
        · cases hq
theorem call_ok {c cc : CT} {q : Smi} {s : AS} {l : List (Nat × AS)} {rho : List Int} {ls : List (Option Value)} {st : List Value} {h : Hp} {pc : Nat} (hq : ab_call c cc q s = some l) (hcv : CV cc) (G : Gm rho s ls st h) (hT : TInv h) :
    ∃ (as rest : List Value) (y : sm_M) (v : Option Value) (h2 : Hp) (e : Nat × AS), fl_step q (pc, ls, st, h, fl_tot) = some (.inr (.inl (cc.1, as, rest, e.1))) ∧ sm_ms[cc.1]? = some y ∧ (fl_args as).length ≤ y.2.2.1 ∧ Ev cc.2.1 cc.1 (0, fl_enter y.2.2.1 as, [], h, fl_tot) (v, h2, fl_tot) ∧ cc.2.1 + 1 ≤ c.2.1 ∧ e ∈ l ∧ (∃ t, Gm (rho ++ t) e.2 ls (v.toList ++ rest) h2) ∧ TInv h2 ∧ Fr c.2.2.2.2.1 h h2 := by
  obtain ⟨op, a, nx⟩ := q
  obtain ⟨als, ast, env, ca⟩ := s
  obtain ⟨g1, g2, g3, g4⟩ := G
  simp only at g1 g2 g3 g4
  unfold ab_call at hq
  simp only at hq
  split at hq
  · rename_i m k
    generalize hkk : k.toNat + (if op = 19 then 0 else 1) = kk at hq
    split at hq
    · rename_i hlen
      split at hq
      · rename_i hok
        have hst : ast.length = st.length := gs_len g3
        obtain ⟨gt, gd⟩ := gs_td kk g3
        have gr := gs_rev gt
        unfold ab_callok at hok
        simp only [Bool.and_eq_true, decide_eq_true_eq, beq_iff_eq, Bool.or_eq_true, List.all_eq_true, bne_iff_ne] at hok
        obtain ⟨⟨⟨⟨⟨⟨⟨o1, o2⟩, o3⟩, o4⟩, o5⟩, o6⟩, o7⟩, o8⟩ := hok
        have hcat : fl_cat (st.drop kk) ≤ 8 := Nat.le_trans (cat_ok gd) o5
        have hpre : ∀ p ∈ cc.2.2.2.2.2.1, pOK (st.take kk).reverse h p := by
          intro p hp
          have := o7 p hp
          have h2 := holds_ok g1 g4 (gs_get gr) this.2
          unfold qOK at h2
          rw [if_neg this.1] at h2
          exact h2
        obtain ⟨y, y1, y2, v, h2, ev, t2, rt, fr, po⟩ := hcv _ h hT (gs_aOK g1 o4 gr) hpre
        have g4' : gc rho h2 (ca.filter (fun e => decide (e.2.1 ∉ cc.2.2.2.2.1))) := by
          intro e he
          obtain ⟨he1, he2⟩ := List.mem_filter.mp he
          obtain ⟨r, q1, q2, q3, q4⟩ := g4 e he1
          refine ⟨r, q1, q2, q3, ?_⟩
          have hf := fr r (by rw [q2]; exact of_decide_eq_true he2)
          unfold ab_cv at q4 ⊢
          rw [hf.1, hf.2]
          exact q4
        obtain ⟨e, he, e1, t, hG⟩ := after_ok hq g1 g2 gd g4' gr rt po
        refine ⟨(st.take kk).reverse, st.drop kk, y, v, h2, e, ?_, y1, y2, ev, o3, he, ⟨t, hG⟩, t2, fr.wide o6⟩
        rw [e1]
        unfold ab_recv at o8
        have hhd : ∀ {A : AV} {L : List AV}, (ast.take kk).reverse = A :: L → ∃ w W, (st.take kk).reverse = w :: W ∧ gv rho A w := by
          intro A L hA
          rw [hA] at gr
          obtain ⟨w, W, z1, z2, -⟩ := gr
          exact ⟨w, W, z1, z2⟩
        rcases o1 with (o1 | o1) | o1
        · subst o1
          rw [if_neg (by decide)] at hkk
          simp only [fl_step, fl_call, hkk]
          rw [if_neg (by omega), if_pos hcat]
          simp only [if_true]
          simp only [Bool.or_eq_true, Bool.and_eq_true, beq_iff_eq] at o8
          rcases o8 with o8 | o8
          · exact absurd o8 (by decide)
          · split at o8
            · rename_i A L hA
              obtain ⟨w, W, z1, z2⟩ := hhd hA
              simp only [Bool.or_eq_true, Bool.and_eq_true, beq_iff_eq, decide_eq_true_eq] at o8
              obtain ⟨p1, p2⟩ := o8
              obtain ⟨r, k1, rfl, k2⟩ := gv_ref p1 z2
              rw [z1]
              simp only
              rcases p2 with p2 | ⟨p2, p3⟩
              · exact absurd p2 (by decide)
              · split at p3
                · rename_i code size tys y' hK hy'
                  obtain ⟨w1, w2⟩ := ab_kdK (by rw [k2]; exact p2) (by rw [k2]; exact hK)
                  rw [if_pos ⟨w1, by rw [w2, hy']; exact of_decide_eq_true (by simpa using p3)⟩, ← o2]
                · cases p3
            · cases o8
        · subst o1
          rw [if_pos rfl] at hkk
          simp only [fl_step, fl_call, hkk]
          rw [if_neg (by omega), if_pos hcat]
          rw [if_neg (by decide), if_neg (by decide), ← o2]
        · subst o1
          rw [if_neg (by decide)] at hkk
          simp only [fl_step, fl_call, hkk]
          rw [if_neg (by omega), if_pos hcat]
          simp only [Bool.or_eq_true, Bool.and_eq_true, beq_iff_eq] at o8
          rcases o8 with o8 | o8
          · exact absurd o8 (by decide)
          · split at o8
            · rename_i A L hA
              obtain ⟨w, W, z1, z2⟩ := hhd hA
              simp only [Bool.and_eq_true, beq_iff_eq] at o8
              obtain ⟨r, k1, rfl, k2⟩ := gv_ref o8.1 z2
              rw [if_neg (by decide), if_pos trivial, z1, ← o2]
            · cases o8
      · cases hq
    · cases hq
  · cases hq
