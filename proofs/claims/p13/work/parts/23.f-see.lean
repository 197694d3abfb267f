/-! Explorer.seeAnswers, by open walks and what holds between its locals -/
theorem iv_at {rho : List Int} {avs : List AV} {ls : List (Option Value)} {i n : Nat} {o : Int} (g : gl rho avs ls) (h : avs[i]? = some (1, n, o)) : rho[n]? = some (iv_ ls i - o) := by
  obtain ⟨v, e1, e2⟩ := (g.2 _ _ h).2 (fun z => by cases z)
  obtain ⟨x, y, z1, rfl, z2⟩ := gv_int rfl e2
  have : iv_ ls i = y.toInt := by unfold iv_; rw [e1]
  rw [z1, this, z2]
  simp
theorem ref_at {rho : List Int} {avs : List AV} {ls : List (Option Value)} {i n : Nat} {k : Int} (g : gl rho avs ls) (h : avs[i]? = some (2, n, k)) : ∃ r : Nat, ls[i]? = some (some (.ref r)) ∧ rho[n]? = some (r : Int) ∧ ab_kd r = k.toNat := by
  obtain ⟨v, e1, e2⟩ := (g.2 _ _ h).2 (fun z => by cases z)
  obtain ⟨r, z1, rfl, z2⟩ := gv_ref rfl e2
  exact ⟨r, e1, z1, z2⟩
theorem gm_tight {rho : List Int} {ls st : List AV} {env : List (Int × Int)} {ca : List (Nat × Nat × Nat × AV)} {cls : List (Option Value)} {cst : List Value} {h : Hp} {i : Nat} {x : Int} {b : Int × Int} (G : Gm rho (ls, st, env, ca) cls cst h) (hi : rho[i]? = some x) (hb : b.1 ≤ x ∧ x ≤ b.2) : Gm rho (ls, st, env.set i b, ca) cls cst h := ⟨ga_set G.1 hi hb, G.2.1, G.2.2.1, G.2.2.2⟩
theorem same_at {rho t : List Int} {n : Nat} {x y : Int} (h1 : rho[n]? = some x) (h2 : (rho ++ t)[n]? = some y) : x = y := by
  have := (get_ext (t := t) h1).symm.trans h2
  exact Option.some.inj this
theorem env_at {rho : List Int} {env : List (Int × Int)} {n : Nat} {x : Int} {b : Int × Int} (g : ga rho env) (h1 : rho[n]? = some x) (h2 : env[n]? = some b) (hb : b.1 ≤ b.2) : b.1 ≤ x ∧ x ≤ b.2 := by
  obtain ⟨y, z1, z2⟩ := g.2 _ _ h2
  cases h1.symm.trans z1
  omega
abbrev seA : CT := (133, 0, [(2, 27, 0), (1, 0, 4720), (1, 0, 4720), (1, 0, 80)], (1, 0, 1), [], [], [])
abbrev seC : CT := (132, 1, [(2, 27, 0)], (9, 0, 0), [30], [], [])
abbrev seD : CT := (132, 1, [(2, 27, 0)], (9, 0, 0), [27, 30], [], [])
abbrev seCm : List (Nat × Nat) := [(141, 0)]
def seG (h0 : Hp) (pc : Nat) (ls : List (Option Value)) (st : List Value) (h : Hp) : Prop := ∃ h', Ev 1 132 (pc, ls, st, h, fl_tot) (none, h', fl_tot) ∧ TInv h' ∧ Fr [27, 30] h0 h'
def seH0 : AS := ([(2, 1, 27), (0, 0, 0), (0, 0, 0), (0, 0, 0), (0, 0, 0), (0, 0, 0)], [], [(0, 0), (1, 0)], [])
def seH27 : AS := ([(2, 1, 27), (1, 2, 0), (1, 3, 0), (1, 4, 0), (0, 0, 0), (0, 0, 0)], [], [(0, 0), (1, 0), (0, 4720), (0, 4800), (0, 5)], [])
def seH52 : AS := ([(2, 1, 27), (1, 2, 0), (1, 3, 0), (1, 4, 0), (2, 5, 16), (1, 6, 0)], [], [(0, 0), (1, 0), (0, 4720), (0, 4800), (0, 4), (1, 0), (0, 8)], [])
def seH69 : AS := ([(2, 1, 27), (1, 2, 0), (1, 3, 0), (1, 4, 0), (2, 5, 16), (1, 6, 0)], [], [(0, 0), (1, 0), (0, 4720), (0, 4798), (0, 4), (1, 0), (0, 7)], [])
def seH122 : AS := ([(2, 1, 27), (1, 2, 0), (1, 3, 0), (1, 4, 0), (0, 0, 0), (0, 0, 0)], [], [(0, 0), (1, 0), (0, 4720), (0, 4800), (0, 60)], [])
def seH141 : AS := ([(2, 1, 27), (1, 2, 0), (1, 3, 0), (1, 4, 0), (0, 0, 0), (0, 0, 0)], [(1, 5, 0), (1, 6, 0), (1, 7, 0), (2, 8, 27)], [(0, 0), (1, 0), (0, 4720), (0, 4800), (0, 59), (0, 80), (0, 4720), (0, 4720), (1, 0)], [])
def seH10 : AS := ([(2, 1, 27), (1, 2, 0), (0, 0, 0), (0, 0, 0), (0, 0, 0), (0, 0, 0)], [], [(0, 0), (1, 0), (0, 4800)], [])
def seH159 : AS := ([(2, 1, 27), (0, 0, 0), (0, 0, 0), (0, 0, 0), (0, 0, 0), (0, 0, 0)], [(1, 2, 0), (2, 1, 27)], [(0, 0), (1, 0), (0, 59)], [])
def seW (c : CT) (s : List Nat) (pc : Nat) (a : AS) : Option (List (Nat × AS)) := ab_walk [seA] c s seCm 1 200 true pc a
def ab_same (a b : Nat × AS) : Bool := decide (a.1 = b.1) && decide (a.2.1 = b.2.1) && decide (a.2.2.1 = b.2.2.1) && decide (a.2.2.2.1 = b.2.2.2.1) && decide (a.2.2.2.2 = b.2.2.2.2)
def ab_sames : List (Nat × AS) → List (Nat × AS) → Bool
  | [], [] => true
  | a :: l, b :: m => ab_same a b && ab_sames l m
  | _, _ => false
theorem same_eq {a b : Nat × AS} (h : ab_same a b = true) : a = b := by
  obtain ⟨a1, a2, a3, a4, a5⟩ := a
  obtain ⟨b1, b2, b3, b4, b5⟩ := b
  simp only [ab_same, Bool.and_eq_true, decide_eq_true_eq] at h
  obtain ⟨⟨⟨⟨h1, h2⟩, h3⟩, h4⟩, h5⟩ := h
  rw [h1, h2, h3, h4, h5]
theorem sames_eq : ∀ {l m : List (Nat × AS)}, ab_sames l m = true → l = m
  | [], [], _ => rfl
  | [], _ :: _, h => by cases h
  | _ :: _, [], h => by cases h
  | a :: l, b :: m, h => by
    unfold ab_sames at h
    rw [Bool.and_eq_true] at h
    rw [same_eq h.1, sames_eq h.2]
def ab_is (w : Option (List (Nat × AS))) (m : List (Nat × AS)) : Bool := match w with
  | some l => ab_sames l m
  | none => false
theorem is_eq {w : Option (List (Nat × AS))} {m : List (Nat × AS)} (h : ab_is w m = true) : w = some m := by
  cases w with
  | none => cases h
  | some l => rw [sames_eq h]
theorem se_w0 : seW seC [4] 0 seH0 = some [(4, ([(2, 1, 27), (0, 0, 0), (0, 0, 0), (0, 0, 0), (0, 0, 0), (0, 0, 0)], [(1, 2, 0)], [(0, 0), (1, 0), (0, 60)], [(1, 27, 6, (1, 2, 0))]))] := is_eq (by decide +kernel)
theorem se_w1 : seW seC [27] 10 seH10 = some [(27, ([(2, 1, 27), (1, 2, 0), (1, 2, 0), (1, 0, 0), (0, 0, 0), (0, 0, 0)], [], [(0, 0), (1, 0), (0, 4720), (1, 0), (4800, 4800)], [(1, 27, 5, (2, 3, 30))])), (22, ([(2, 1, 27), (1, 2, 0), (0, 0, 0), (0, 0, 0), (0, 0, 0), (0, 0, 0)], [], [(0, 0), (1, 0), (4721, 4800), (1, 0), (4800, 4800)], [(1, 27, 5, (2, 3, 30))]))] := is_eq (by decide +kernel)
theorem se_w2 : seW seC [52, 122] 27 seH27 = some [(122, ([(2, 1, 27), (1, 2, 0), (1, 3, 0), (1, 0, 0), (0, 0, 0), (0, 0, 0)], [], [(0, 0), (1, 0), (0, 4720), (0, 4800), (0, 5), (1, 0), (0, 5)], [(5, 2, 3, (1, 6, 0)), (1, 27, 0, (2, 5, 2))])), (52, ([(2, 1, 27), (1, 2, 0), (1, 3, 0), (1, 4, 0), (2, 8, 16), (1, 0, 0)], [], [(0, 0), (1, 0), (0, 4720), (0, 4800), (0, 4), (1, 0), (1, 5), (1, 0), (1, 0)], [(5, 2, 1, (2, 7, 15)), (5, 2, 3, (1, 6, 0)), (1, 27, 0, (2, 5, 2))]))] := is_eq (by decide +kernel)
theorem se_w3 : seW seC [69, 27] 52 seH52 = some [(27, ([(2, 1, 27), (1, 2, 0), (1, 3, 0), (1, 4, 1), (2, 5, 16), (1, 6, 0)], [], [(0, 0), (1, 0), (0, 4720), (0, 4800), (0, 4), (1, 0), (0, 8), (0, 8)], [(5, 16, 3, (1, 7, 0))])), (69, ([(2, 1, 27), (1, 2, 0), (1, 3, 0), (1, 4, 0), (2, 5, 16), (1, 6, 0)], [], [(0, 0), (1, 0), (0, 4720), (0, 4800), (0, 4), (1, 0), (0, 7), (1, 8)], [(5, 16, 3, (1, 7, 0))]))] := is_eq (by decide +kernel)
theorem se_w4 : seW seC [52] 69 seH69 = some [(52, ([(2, 1, 27), (1, 2, 0), (1, 3, 2), (1, 4, 0), (2, 5, 16), (1, 6, 1)], [], [(0, 0), (1, 0), (0, 4720), (0, 4798), (0, 4), (1, 0), (0, 7), (1, 0), (1, 0), (1, 0), (-2147483648, 2147483647), (1, 0), (-2147483648, 2147483647)], [(11, 18, 16, (1, 12, 0)), (9, 18, 15, (1, 10, 0)), (5, 16, 1, (2, 8, 17)), (1, 27, 5, (2, 7, 30))]))] := is_eq (by decide +kernel)
theorem se_w5 : seW seC [140, 154] 122 seH122 = some [(154, ([(2, 1, 27), (1, 2, 0), (1, 3, 0), (1, 4, 0), (0, 0, 0), (0, 0, 0)], [], [(0, 0), (1, 0), (0, 4720), (0, 4800), (0, 60), (0, 60)], [(1, 27, 6, (1, 5, 0))])), (140, ([(2, 1, 27), (1, 2, 0), (1, 3, 0), (1, 4, 0), (0, 0, 0), (0, 0, 0)], [(1, 2, 0), (1, 3, 0), (1, 2, 0), (1, 7, 0), (2, 1, 27)], [(0, 0), (1, 0), (0, 4720), (0, 4800), (0, 59), (1, 60), (0, 118), (0, 4720)], [(1, 27, 6, (1, 5, 0))]))] := is_eq (by decide +kernel)
theorem se_w6 : seW seC [122] 141 seH141 = some [(122, ([(2, 1, 27), (1, 2, 0), (1, 3, 0), (1, 4, 1), (0, 0, 0), (0, 0, 0)], [], [(0, 0), (1, 0), (0, 4720), (0, 4800), (0, 59), (0, 80), (0, 4720), (0, 4720), (1, 0), (0, 0)], [])), (147, ([(2, 1, 27), (1, 2, 0), (1, 3, 0), (1, 4, 0), (0, 0, 0), (0, 0, 0)], [], [(0, 0), (1, 0), (0, 4720), (0, 4800), (0, 59), (0, 80), (0, 4720), (0, 4720), (1, 0), (1, 1)], []))] := is_eq (by decide +kernel)
theorem se_w7 : seW seC [159] 154 seH0 = some [(159, ([(2, 1, 27), (0, 0, 0), (0, 0, 0), (0, 0, 0), (0, 0, 0), (0, 0, 0)], [(1, 2, 0), (2, 1, 27)], [(0, 0), (1, 0), (0, 60)], [(1, 27, 6, (1, 2, 0))]))] := is_eq (by decide +kernel)
theorem se_w8 : seW seD [] 159 seH159 = some [(164, ([(2, 1, 27), (0, 0, 0), (0, 0, 0), (0, 0, 0), (0, 0, 0), (0, 0, 0)], [], [(0, 0), (1, 0), (0, 59)], [(1, 27, 6, (1, 2, 1))]))] := is_eq (by decide +kernel)
theorem se_cv (hA : CV seA) : ∀ (j : Nat) (cc : CT), j < 1 → [seA][j]? = some cc → CV cc := by
  intro j cc hj h
  obtain rfl : j = 0 := by omega
  cases h
  exact hA
theorem se_go {c : CT} {s : List Nat} {pc : Nat} {S : AS} {L : List (Nat × AS)} {rho : List Int} {ls : List (Option Value)} {st : List Value} {h h0 : Hp} (hw : seW c s pc S = some L) (hA : CV seA) (G : Gm rho S ls st h) (hT : TInv h) (hF : Fr c.2.2.2.2.1 h0 h) : Rch c rho h0 pc ls st h L := walk_ok (se_cv hA) 200 true pc S L rho ls st h hw G hT hF
theorem head_mk {hd : HD} {ls : List (Option Value)} {st : List Value} {h : Hp} (h1 : lOK hd.1 ls) (h2 : lOK hd.2.1 (st.map some)) : ∃ rho', Gm rho' (ab_head hd) ls st h := by
  have g0 : ga [0] [(0, 0)] := ⟨rfl, fun i b hb => by
    cases i with
    | zero => cases hb; exact ⟨0, rfl, Or.inr ⟨Int.le_refl _, Int.le_refl _⟩⟩
    | succ i => simp at hb⟩
  obtain ⟨t, a1, a2⟩ := mk_ok hd.1 ls [(0, 0)] [0] g0 h1
  obtain ⟨t2, b1, b2⟩ := mk_ok hd.2.1 (st.map some) _ _ a1 h2
  exact ⟨_, b1, gl_ext a2, gs_of_gl b2, fun e he => by cases he⟩
theorem Gm.bare {rho : List Int} {ls st : List AV} {env : List (Int × Int)} {ca : List (Nat × Nat × Nat × AV)} {cls : List (Option Value)} {cst : List Value} {h : Hp} (G : Gm rho (ls, st, env, ca) cls cst h) : Gm rho (ls, st, env, []) cls cst h := ⟨G.1, G.2.1, G.2.2.1, fun e he => by cases he⟩
theorem seG.to {h0 : Hp} {pc pc' : Nat} {ls ls' : List (Option Value)} {st st' : List Value} {h h' : Hp} (k : ∀ r, Ev 1 132 (pc', ls', st', h', fl_tot) r → Ev 1 132 (pc, ls, st, h, fl_tot) r) (g : seG h0 pc' ls' st' h') : seG h0 pc ls st h := by
  obtain ⟨h2, ev, x⟩ := g
  exact ⟨h2, k _ ev, x⟩
theorem cd132_164 : fl_code 132 164 = some (21, [], 165) := by decide +kernel
theorem cd132_147 : fl_code 132 147 = some (21, [], 148) := by decide +kernel
theorem cd132_22 : fl_code 132 22 = some (21, [], 23) := by decide +kernel
theorem cd132_140 : fl_code 132 140 = some (5, [1], 141) := by decide +kernel
theorem se_end {h0 : Hp} {pc nx : Nat} {ls : List (Option Value)} {h : Hp} (hc : fl_code 132 pc = some (21, [], nx)) (hT : TInv h) (hF : Fr [27, 30] h0 h) : seG h0 pc ls [] h := ⟨h, Ev.ret hc rfl, hT, hF⟩
theorem se_30 {h0 h : Hp} (hF : Fr [30] h0 h) : Fr [27, 30] h0 h := hF.wide (fun x hx => List.mem_cons_of_mem _ hx)
/-- this: the same cell -/
theorem this_at {rho t : List Int} {avs avs' : List AV} {ls ls' : List (Option Value)} {r : Nat} {k k' : Int} (g : gl rho avs ls) (h1 : avs[0]? = some (2, 1, k)) (hr : ls[0]? = some (some (.ref r))) (g' : gl (rho ++ t) avs' ls') (h2 : avs'[0]? = some (2, 1, k')) : ls'[0]? = some (some (.ref r)) := by
  obtain ⟨r1, a1, a2, -⟩ := ref_at g h1
  obtain ⟨r2, b1, b2, -⟩ := ref_at g' h2
  rw [hr] at a1
  have h3 : r = r1 := by simpa using a1
  have h4 := same_at a2 b2
  have : r2 = r := by omega
  rw [b1, this]
theorem iv_eq {rho t : List Int} {avs avs' : List AV} {ls ls' : List (Option Value)} {i j n : Nat} {o o' : Int} (g : gl rho avs ls) (h1 : avs[i]? = some (1, n, o)) (g' : gl (rho ++ t) avs' ls') (h2 : avs'[j]? = some (1, n, o')) : iv_ ls' j - o' = iv_ ls i - o := (same_at (iv_at g h1) (iv_at g' h2)).symm
section SEE
variable {h0 : Hp} {r : Nat}
theorem se_154 (hA : CV seA) (hs : (h0.1 r 6).toInt ≤ 59) (hk : ab_kd r = 27) {rho : List Int} {ls : List (Option Value)} {h : Hp} (G : Gm rho seH0 ls [] h) (hr : ls[0]? = some (some (.ref r))) (hT : TInv h) (hF : Fr [30] h0 h) : seG h0 154 ls [] h := by
  obtain ⟨e, he, t, ls', st', h', G', T', F', k⟩ := se_go se_w7 hA G hT hF
  obtain rfl := List.mem_singleton.mp he
  refine seG.to k ?_
  have hr' := this_at G.2.1 rfl hr G'.2.1 rfl
  obtain ⟨r1, a1, a2, -⟩ := ref_at (i := 0) G'.2.1 rfl
  have e1 : r1 = r := by rw [hr'] at a1; simpa using a1.symm
  subst e1
  obtain ⟨r2, c1, c2, c3, c4⟩ := G'.2.2.2 _ (List.mem_singleton.mpr rfl)
  have e2 : r2 = r1 := by
    have := a2.symm.trans c1
    simp only [Option.some.injEq] at this
    omega
  subst e2
  obtain ⟨x, y, z1, z2, z3⟩ := gv_int rfl c4
  have hfr := (F' r2 (by rw [hk]; decide)).1
  have z4 : (h0.1 r2 6) = y := by
    have : Value.int (h'.1 r2 6) = .int y := z2
    rw [hfr] at this
    exact (Value.int.inj this)
  have hx := env_at G'.1 z1 (b := (0, 60)) rfl (by decide)
  have G2 : Gm (rho ++ t) seH159 ls' st' h' := (gm_tight (b := (0, 59)) G' z1 ⟨hx.1, by rw [z4] at hs; simp only at z3 ⊢; omega⟩).bare
  obtain ⟨e, he, t2, ls2, st2, h2, G3, T3, F3, k3⟩ := se_go (h0 := h') se_w8 hA G2 T' Fr.rfl'
  obtain rfl := List.mem_singleton.mp he
  refine seG.to k3 ?_
  have : st2 = [] := G3.2.2.1
  subst this
  exact se_end cd132_164 T3 ((se_30 F').trans F3)
theorem se_122 (hA : CV seA) (hs : (h0.1 r 6).toInt ≤ 59) (hk : ab_kd r = 27) : ∀ (N : Nat) (rho : List Int) (ls : List (Option Value)) (h : Hp), Gm rho seH122 ls [] h → ls[0]? = some (some (.ref r)) → TInv h → Fr [30] h0 h → iv_ ls 1 ≤ iv_ ls 2 → iv_ ls 2 ≤ iv_ ls 1 + 80 → (60 - iv_ ls 3).toNat < N → seG h0 122 ls [] h := by
  intro N
  induction N with
  | zero => intro rho ls h _ _ _ _ _ _ hn; omega
  | succ N ih =>
    intro rho ls h G hr hT hF hi1 hi2 hn
    obtain ⟨e, he, t, ls', st', h', G', T', F', k⟩ := se_go se_w5 hA G hT hF
    refine seG.to k ?_
    rcases List.mem_cons.mp he with rfl | he
    · have hr' := this_at G.2.1 rfl hr G'.2.1 rfl
      have hst : st' = [] := G'.2.2.1
      subst hst
      obtain ⟨rho', G2⟩ := head_ok (hd := ([(2, 27, 0), (0, 0, 0), (0, 0, 0), (0, 0, 0), (0, 0, 0), (0, 0, 0)], [], [])) G' (by decide +kernel) (by decide +kernel)
      exact se_154 hA hs hk G2 hr' T' F'
    · obtain rfl := List.mem_singleton.mp he
      have hr' := this_at G.2.1 rfl hr G'.2.1 rfl
      have i1 : iv_ ls' 1 - 0 = iv_ ls 1 - 0 := iv_eq G.2.1 rfl G'.2.1 rfl
      have i2 : iv_ ls' 2 - 0 = iv_ ls 2 - 0 := iv_eq G.2.1 rfl G'.2.1 rfl
      have i3 : iv_ ls' 3 - 0 = iv_ ls 3 - 0 := iv_eq G.2.1 rfl G'.2.1 rfl
      have n2 := iv_at (i := 1) (n := 2) (o := 0) G'.2.1 rfl
      have n3 := iv_at (i := 2) (n := 3) (o := 0) G'.2.1 rfl
      obtain ⟨v1, w1, rfl, p1, v2, w2, rfl, p2, v3, w3, rfl, p3, v4, w4, rfl, p4, v5, w5, rfl, p5, hw⟩ := G'.2.2.1
      have hw : w5 = [] := hw
      subst hw
      obtain ⟨x1, y1, q1, rfl, q1'⟩ := gv_int rfl p1
      obtain ⟨x2, y2, q2, rfl, q2'⟩ := gv_int rfl p2
      have f1 := fits_ok (t := (1, 0, 4720)) G'.1 (by decide +kernel) p3
      have f2 := fits_ok (t := (1, 0, 4720)) G'.1 (by decide +kernel) p4
      have f3 := fits_ok (t := (2, 27, 0)) G'.1 (by decide +kernel) p5
      have u1 : y1.toInt = iv_ ls' 1 := by
        have := q1.symm.trans n2
        simp only [Option.some.injEq] at this
        simp only at q1'
        omega
      have u2 : y2.toInt = iv_ ls' 2 := by
        have := q2.symm.trans n3
        simp only [Option.some.injEq] at this
        simp only at q2'
        omega
      have u3 : (y2 - y1).toInt = y2.toInt - y1.toInt := by rw [Int32.toInt_sub, i_bm (by omega) (by omega)]
      have fl := fitl_l G'.1 (ts := [(2, 27, 0), (1, 0, 4720), (1, 0, 4800), (1, 0, 59), (0, 0, 0), (0, 0, 0)]) (by decide +kernel) G'.2.1
      obtain ⟨rho', G2⟩ := head_mk (h := h') (hd := ([(2, 27, 0), (1, 0, 4720), (1, 0, 4800), (1, 0, 59), (0, 0, 0), (0, 0, 0)], [(1, 0, 80), (1, 0, 4720), (1, 0, 4720), (2, 27, 0)], [])) (st := [.int (y2 - y1), v3, v4, v5]) fl
        ⟨_, _, rfl, ⟨_, rfl, y2 - y1, rfl, by simp only; omega, by simp only; omega⟩, _, _, rfl, ⟨_, rfl, f1⟩, _, _, rfl, ⟨_, rfl, f2⟩, _, _, rfl, ⟨_, rfl, f3⟩, rfl⟩
      refine seG.to (fun r ev => Ev.step (c' := (141, ls', [.int (y2 - y1), v3, v4, v5], h', fl_tot)) cd132_140 rfl ev) ?_
      have G2 : Gm rho' seH141 ls' [.int (y2 - y1), v3, v4, v5] h' := G2
      obtain ⟨e, he, t2, ls2, st2, h2, G3, T3, F3, k3⟩ := se_go se_w6 hA G2 T' F'
      refine seG.to k3 ?_
      rcases List.mem_cons.mp he with rfl | he
      · have hst : st2 = [] := G3.2.2.1
        subst hst
        have hr2 := this_at G2.2.1 rfl hr' G3.2.1 rfl
        have j1 : iv_ ls2 1 - 0 = iv_ ls' 1 - 0 := iv_eq G2.2.1 rfl G3.2.1 rfl
        have j2 : iv_ ls2 2 - 0 = iv_ ls' 2 - 0 := iv_eq G2.2.1 rfl G3.2.1 rfl
        have j3 : iv_ ls2 3 - 1 = iv_ ls' 3 - 0 := iv_eq G2.2.1 rfl G3.2.1 rfl
        obtain ⟨rho3, G4⟩ := head_ok (hd := ([(2, 27, 0), (1, 0, 4720), (1, 0, 4800), (1, 0, 60), (0, 0, 0), (0, 0, 0)], [], [])) G3 (by decide +kernel) (by decide +kernel)
        have b3 := env_at G'.1 (iv_at (i := 3) (n := 4) (o := 0) G'.2.1 rfl) (b := (0, 59)) rfl (by decide)
        simp only at b3
        exact ih rho3 ls2 h2 G4 hr2 T3 F3 (by omega) (by omega) (by omega)
      · obtain rfl := List.mem_singleton.mp he
        have hst : st2 = [] := G3.2.2.1
        subst hst
        exact se_end cd132_147 T3 (se_30 F3)
theorem se_52 (hA : CV seA) {C : Int} (hP : ∀ (rho : List Int) (ls : List (Option Value)) (h : Hp), Gm rho seH27 ls [] h → ls[0]? = some (some (.ref r)) → TInv h → Fr [30] h0 h → iv_ ls 1 ≤ iv_ ls 2 → iv_ ls 2 ≤ iv_ ls 1 + 16 * iv_ ls 3 → iv_ ls 3 = C + 1 → seG h0 27 ls [] h) :
    ∀ (N : Nat) (rho : List Int) (ls : List (Option Value)) (h : Hp), Gm rho seH52 ls [] h → ls[0]? = some (some (.ref r)) → TInv h → Fr [30] h0 h → iv_ ls 1 ≤ iv_ ls 2 → iv_ ls 2 ≤ iv_ ls 1 + 16 * iv_ ls 3 + 2 * iv_ ls 5 → iv_ ls 3 = C → (8 - iv_ ls 5).toNat < N → seG h0 52 ls [] h := by
  intro N
  induction N with
  | zero => intro rho ls h _ _ _ _ _ _ _ hn; omega
  | succ N ih =>
    intro rho ls h G hr hT hF hi1 hi2 hC hn
    have b5 := env_at G.1 (iv_at (i := 5) (n := 6) (o := 0) G.2.1 rfl) (b := (0, 8)) rfl (by decide)
    have b3 := env_at G.1 (iv_at (i := 3) (n := 4) (o := 0) G.2.1 rfl) (b := (0, 4)) rfl (by decide)
    have b1 := env_at G.1 (iv_at (i := 1) (n := 2) (o := 0) G.2.1 rfl) (b := (0, 4720)) rfl (by decide)
    simp only at b5 b3 b1
    obtain ⟨e, he, t, ls', st', h', G', T', F', k⟩ := se_go se_w3 hA G hT hF
    refine seG.to k ?_
    rcases List.mem_cons.mp he with rfl | he
    · have hst : st' = [] := G'.2.2.1
      subst hst
      have hr' := this_at G.2.1 rfl hr G'.2.1 rfl
      have i1 : iv_ ls' 1 - 0 = iv_ ls 1 - 0 := iv_eq G.2.1 rfl G'.2.1 rfl
      have i2 : iv_ ls' 2 - 0 = iv_ ls 2 - 0 := iv_eq G.2.1 rfl G'.2.1 rfl
      have i3 : iv_ ls' 3 - 1 = iv_ ls 3 - 0 := iv_eq G.2.1 rfl G'.2.1 rfl
      obtain ⟨rho3, G4⟩ := head_ok (hd := ([(2, 27, 0), (1, 0, 4720), (1, 0, 4800), (1, 0, 5), (0, 0, 0), (0, 0, 0)], [], [])) G' (by decide +kernel) (by decide +kernel)
      exact hP rho3 ls' h' G4 hr' T' F' (by omega) (by omega) (by omega)
    · obtain rfl := List.mem_singleton.mp he
      have hst : st' = [] := G'.2.2.1
      subst hst
      have hr' := this_at G.2.1 rfl hr G'.2.1 rfl
      have i1 : iv_ ls' 1 - 0 = iv_ ls 1 - 0 := iv_eq G.2.1 rfl G'.2.1 rfl
      have i2 : iv_ ls' 2 - 0 = iv_ ls 2 - 0 := iv_eq G.2.1 rfl G'.2.1 rfl
      have i3 : iv_ ls' 3 - 0 = iv_ ls 3 - 0 := iv_eq G.2.1 rfl G'.2.1 rfl
      have i5 : iv_ ls' 5 - 0 = iv_ ls 5 - 0 := iv_eq G.2.1 rfl G'.2.1 rfl
      have n3 := iv_at (i := 2) (n := 3) (o := 0) G'.2.1 rfl
      have c5 := env_at G'.1 (iv_at (i := 5) (n := 6) (o := 0) G'.2.1 rfl) (b := (0, 7)) rfl (by decide)
      simp only at c5
      obtain ⟨rho3, G4⟩ := head_ok (hd := ([(2, 27, 0), (1, 0, 4720), (1, 0, 4798), (1, 0, 4), (2, 16, 0), (1, 0, 7)], [], [])) (gm_tight (b := (0, 4798)) G' n3 ⟨by simp only; omega, by simp only; omega⟩) (by decide +kernel) (by decide +kernel)
      have G4 : Gm rho3 seH69 ls' [] h' := G4
      obtain ⟨e, he, t2, ls2, st2, h2, G3, T3, F3, k3⟩ := se_go se_w4 hA G4 T' F'
      refine seG.to k3 ?_
      obtain rfl := List.mem_singleton.mp he
      have hst : st2 = [] := G3.2.2.1
      subst hst
      have hr2 := this_at G4.2.1 rfl hr' G3.2.1 rfl
      have j1 : iv_ ls2 1 - 0 = iv_ ls' 1 - 0 := iv_eq G4.2.1 rfl G3.2.1 rfl
      have j2 : iv_ ls2 2 - 2 = iv_ ls' 2 - 0 := iv_eq G4.2.1 rfl G3.2.1 rfl
      have j3 : iv_ ls2 3 - 0 = iv_ ls' 3 - 0 := iv_eq G4.2.1 rfl G3.2.1 rfl
      have j5 : iv_ ls2 5 - 1 = iv_ ls' 5 - 0 := iv_eq G4.2.1 rfl G3.2.1 rfl
      obtain ⟨rho5, G5⟩ := head_ok (hd := ([(2, 27, 0), (1, 0, 4720), (1, 0, 4800), (1, 0, 4), (2, 16, 0), (1, 0, 8)], [], [])) G3 (by decide +kernel) (by decide +kernel)
      exact ih rho5 ls2 h2 G5 hr2 T3 F3 (by omega) (by omega) (by omega) (by omega)
theorem se_27 (hA : CV seA) (hs : (h0.1 r 6).toInt ≤ 59) (hk : ab_kd r = 27) : ∀ (N : Nat) (rho : List Int) (ls : List (Option Value)) (h : Hp), Gm rho seH27 ls [] h → ls[0]? = some (some (.ref r)) → TInv h → Fr [30] h0 h → iv_ ls 1 ≤ iv_ ls 2 → iv_ ls 2 ≤ iv_ ls 1 + 16 * iv_ ls 3 → (5 - iv_ ls 3).toNat < N → seG h0 27 ls [] h := by
  intro N
  induction N with
  | zero => intro rho ls h _ _ _ _ _ _ hn; omega
  | succ N ih =>
    intro rho ls h G hr hT hF hi1 hi2 hn
    have b3 := env_at G.1 (iv_at (i := 3) (n := 4) (o := 0) G.2.1 rfl) (b := (0, 5)) rfl (by decide)
    simp only at b3
    obtain ⟨e, he, t, ls', st', h', G', T', F', k⟩ := se_go se_w2 hA G hT hF
    refine seG.to k ?_
    rcases List.mem_cons.mp he with rfl | he
    · have hst : st' = [] := G'.2.2.1
      subst hst
      have hr' := this_at G.2.1 rfl hr G'.2.1 rfl
      have i1 : iv_ ls' 1 - 0 = iv_ ls 1 - 0 := iv_eq G.2.1 rfl G'.2.1 rfl
      have i2 : iv_ ls' 2 - 0 = iv_ ls 2 - 0 := iv_eq G.2.1 rfl G'.2.1 rfl
      obtain ⟨rho3, G4⟩ := head_ok (hd := ([(2, 27, 0), (1, 0, 4720), (1, 0, 4800), (1, 0, 60), (0, 0, 0), (0, 0, 0)], [], [])) G' (by decide +kernel) (by decide +kernel)
      exact se_122 hA hs hk _ rho3 ls' h' G4 hr' T' F' (by omega) (by omega) (Nat.lt_succ_self _)
    · obtain rfl := List.mem_singleton.mp he
      have hst : st' = [] := G'.2.2.1
      subst hst
      have hr' := this_at G.2.1 rfl hr G'.2.1 rfl
      have i1 : iv_ ls' 1 - 0 = iv_ ls 1 - 0 := iv_eq G.2.1 rfl G'.2.1 rfl
      have i2 : iv_ ls' 2 - 0 = iv_ ls 2 - 0 := iv_eq G.2.1 rfl G'.2.1 rfl
      have i3 : iv_ ls' 3 - 0 = iv_ ls 3 - 0 := iv_eq G.2.1 rfl G'.2.1 rfl
      have c3 := env_at G'.1 (iv_at (i := 3) (n := 4) (o := 0) G'.2.1 rfl) (b := (0, 4)) rfl (by decide)
      simp only at c3
      have n5 := iv_at (i := 5) (n := 0) (o := 0) G'.2.1 rfl
      have c5 := env_at G'.1 n5 (b := (0, 0)) rfl (by decide)
      simp only at c5
      obtain ⟨rho3, G4⟩ := head_ok (hd := ([(2, 27, 0), (1, 0, 4720), (1, 0, 4800), (1, 0, 4), (2, 16, 0), (1, 0, 8)], [], [])) G' (by decide +kernel) (by decide +kernel)
      exact se_52 hA (C := iv_ ls 3) (fun rho4 ls4 h4 Q1 Q2 Q3 Q4 Q5 Q6 Q7 => ih rho4 ls4 h4 Q1 Q2 Q3 Q4 Q5 Q6 (by omega)) _ rho3 ls' h' G4 hr' T' F' (by omega) (by omega) (by omega) (Nat.lt_succ_self _)
end SEE
theorem cd132_4 : fl_code 132 4 = some (1, [2], 5) := by decide +kernel
theorem cd132_5 : fl_code 132 5 = some (5, [2], 6) := by decide +kernel
theorem cd132_6 : fl_code 132 6 = some (1, [40], 8) := by decide +kernel
theorem cd132_8 : fl_code 132 8 = some (5, [2], 9) := by decide +kernel
theorem cd132_9 : fl_code 132 9 = some (3, [1, 0], 10) := by decide +kernel
theorem cv_see (hA : CV seA) : CV seD := by
  intro as h0 hT ha hpre
  obtain ⟨v, w, rfl, hv, hw⟩ := ha
  have : w = [] := hw
  subst this
  obtain ⟨r, rfl, hk⟩ := hv
  have hk : ab_kd r = 27 := hk
  refine ⟨_, rfl, (show 1 ≤ 6 by decide), ?_⟩
  have main : seG h0 0 [some (.ref r), none, none, none, none, none] [] h0 := by
    obtain ⟨rho, G⟩ := head_mk (h := h0) (hd := ([(2, 27, 0), (0, 0, 0), (0, 0, 0), (0, 0, 0), (0, 0, 0), (0, 0, 0)], [], [])) (ls := [some (.ref r), none, none, none, none, none]) (st := [])
      ⟨_, _, rfl, ⟨_, rfl, r, rfl, hk⟩, _, _, rfl, (fun v hv => by cases hv), _, _, rfl, (fun v hv => by cases hv), _, _, rfl, (fun v hv => by cases hv), _, _, rfl, (fun v hv => by cases hv), _, _, rfl, (fun v hv => by cases hv), rfl⟩ rfl
    have G : Gm rho seH0 [some (.ref r), none, none, none, none, none] [] h0 := G
    obtain ⟨e, he, t, ls', st', h', G', T', F', k⟩ := se_go (h0 := h0) se_w0 hA G hT Fr.rfl'
    obtain rfl := List.mem_singleton.mp he
    refine seG.to k ?_
    have hr' := this_at G.2.1 rfl rfl G'.2.1 rfl
    obtain ⟨r1, a1, a2, -⟩ := ref_at (i := 0) G'.2.1 rfl
    have e1 : r1 = r := by rw [hr'] at a1; simpa using a1.symm
    subst e1
    obtain ⟨r2, c1, c2, c3, c4⟩ := G'.2.2.2 _ (List.mem_singleton.mpr rfl)
    have e2 : r2 = r1 := by
      have := a2.symm.trans c1
      simp only [Option.some.injEq] at this
      omega
    subst e2
    obtain ⟨x, y, z1, z2, z3⟩ := gv_int rfl c4
    have hfr := (F' r2 (by rw [hk]; decide)).1
    have z4 : (h0.1 r2 6) = y := by
      have : Value.int (h'.1 r2 6) = .int y := z2
      rw [hfr] at this
      exact (Value.int.inj this)
    have hx := env_at G'.1 z1 (b := (0, 60)) rfl (by decide)
    simp only at hx z3
    obtain ⟨v1, w1, rfl, p1, hw⟩ := G'.2.2.1
    have hw : w1 = [] := hw
    subst hw
    obtain ⟨x1, y1, q1, rfl, q1'⟩ := gv_int rfl p1
    simp only at q1'
    have ex : x1 = x := Option.some.inj (q1.symm.trans z1)
    have ey : y1.toInt = (h0.1 r2 6).toInt := by rw [z4]; omega
    have m1 : (y1 * Int32.ofInt 2).toInt = y1.toInt * 2 := by rw [Int32.toInt_mul, show (Int32.ofInt 2).toInt = 2 from by decide, i_bm (by omega) (by omega)]
    have m2 : (y1 * Int32.ofInt 2 * Int32.ofInt 40).toInt = y1.toInt * 80 := by rw [Int32.toInt_mul, m1, show (Int32.ofInt 40).toInt = 40 from by decide, i_bm (by omega) (by omega)]; omega
    obtain ⟨lsn, s1, s2⟩ := store_ok (i := 1) (v := (1, 3, 0)) (ls' := [(2, 1, 27), (1, 3, 0), (0, 0, 0), (0, 0, 0), (0, 0, 0), (0, 0, 0)]) (w := .int (y1 * Int32.ofInt 2 * Int32.ofInt 40)) (by decide +kernel) (gl_ext (t := [(y1 * Int32.ofInt 2 * Int32.ofInt 40).toInt]) G'.2.1) (gv_mk (by
      have := ga_last (x := (y1 * Int32.ofInt 2 * Int32.ofInt 40).toInt) G'.1
      rw [Int.sub_zero]
      exact this))
    refine seG.to (pc' := 10) (ls' := lsn) (st' := []) (h' := h') (fun q ev => Ev.step cd132_4 rfl (Ev.step cd132_5 rfl (Ev.step cd132_6 rfl (Ev.step cd132_8 rfl (Ev.step cd132_9 (by
      simp only [fl_step]
      rw [if_pos (show fl_is 0 (Value.int (y1 * Int32.ofInt 2 * Int32.ofInt 40)) = true from rfl)]
      have : fl_store ls' (Int.toNat 1) (.int (y1 * Int32.ofInt 2 * Int32.ofInt 40)) = some lsn := s1
      rw [this]) ev))))) ?_
    have hrn : lsn[0]? = some (some (.ref r2)) := by
      obtain ⟨r3, d1, d2, -⟩ := ref_at (i := 0) s2 rfl
      have d3 := get_ext (t := [(y1 * Int32.ofInt 2 * Int32.ofInt 40).toInt]) a2
      have := d3.symm.trans d2
      simp only [Option.some.injEq] at this
      rw [d1, show r3 = r2 by omega]
    have ivn : iv_ lsn 1 = y1.toInt * 80 := by
      have d1 := iv_at (i := 1) s2 rfl
      have d2 := (ga_last (x := (y1 * Int32.ofInt 2 * Int32.ofInt 40).toInt) G'.1).symm.trans d1
      simp only [Option.some.injEq] at d2
      omega
    have gpush := ga_push (x := (y1 * Int32.ofInt 2 * Int32.ofInt 40).toInt) (b := (0, 4800)) G'.1 (Or.inr ⟨by simp only; omega, by simp only; omega⟩)
    have GN : Gm _ ([(2, 1, 27), (1, 3, 0), (0, 0, 0), (0, 0, 0), (0, 0, 0), (0, 0, 0)], [], _, []) lsn [] h' := ⟨gpush, s2, rfl, fun e he => by cases he⟩
    obtain ⟨rho5, G5⟩ := head_ok (hd := ([(2, 27, 0), (1, 0, 4800), (0, 0, 0), (0, 0, 0), (0, 0, 0), (0, 0, 0)], [], [])) GN (by decide +kernel) (by decide +kernel)
    have G5 : Gm rho5 seH10 lsn [] h' := G5
    obtain ⟨e, he, t2, ls2, st2, h2, G3, T3, F3, k3⟩ := se_go se_w1 hA G5 T' F'
    refine seG.to k3 ?_
    rcases List.mem_cons.mp he with rfl | he
    · have hst : st2 = [] := G3.2.2.1
      subst hst
      have hr2 := this_at G5.2.1 rfl hrn G3.2.1 rfl
      have j1 : iv_ ls2 1 - 0 = iv_ lsn 1 - 0 := iv_eq G5.2.1 rfl G3.2.1 rfl
      have j2 : iv_ ls2 2 - 0 = iv_ lsn 1 - 0 := iv_eq G5.2.1 rfl G3.2.1 rfl
      have c1 := env_at G3.1 (iv_at (i := 1) (n := 2) (o := 0) G3.2.1 rfl) (b := (0, 4720)) rfl (by decide)
      have c3 := env_at G3.1 (iv_at (i := 3) (n := 0) (o := 0) G3.2.1 rfl) (b := (0, 0)) rfl (by decide)
      simp only at c1 c3
      obtain ⟨rho6, G6⟩ := head_ok (hd := ([(2, 27, 0), (1, 0, 4720), (1, 0, 4800), (1, 0, 5), (0, 0, 0), (0, 0, 0)], [], [])) G3 (by decide +kernel) (by decide +kernel)
      exact se_27 hA (by omega) hk _ rho6 ls2 h2 G6 hr2 T3 F3 (by omega) (by omega) (Nat.lt_succ_self _)
    · obtain rfl := List.mem_singleton.mp he
      have hst : st2 = [] := G3.2.2.1
      subst hst
      exact se_end cd132_22 T3 (se_30 F3)
  obtain ⟨h', ev, q1, q2⟩ := main
  exact ⟨none, h', ev, q1, by unfold retOK; rw [if_pos rfl], q2, fun _ p hp => by cases hp⟩
