/-! Explorer.seeAnswers, by open walks and what holds between its locals -/
theorem iv_at {rho : List Int} {avs : List AV} {ls : List (Option Value)} {i n : Nat} {o : Int} (g : gl rho avs ls) (h : avs[i]? = some (1, n, o)) : rho[n]? = some (iv_ ls i - o) := by
  obtain ⟨v, e1, e2⟩ := (g.2 _ _ h).2 (fun z => by cases z)
  obtain ⟨x, y, z1, rfl, z2⟩ := gv_int rfl e2
  have : iv_ ls i = y.toInt := by unfold iv_; rw [e1]
  rw [z1, this, z2]
  simp
theorem ref_at {rho : List Int} {avs : List AV} {ls : List (Option Value)} {i n : Nat} {k : Int} (g : gl rho avs ls) (h : avs[i]? = some (2, n, k)) : ∃ r : Nat, ls[i]? = some (some (.ref r)) ∧ rho[n]? = some (r : Int) ∧ ab_kd r = k.toNat := by
  obtain ⟨v, e1, e2⟩ := (g.2 _ _ h).2 (fun z => by cases z)
  obtain ⟨r, z1, rfl, z2⟩ := gv_ref rfl e2
  exact ⟨r, e1, z1, z2⟩
theorem gm_tight {rho : List Int} {ls st : List AV} {env : List (Int × Int)} {ca : List (Nat × Nat × Nat × AV)} {cls : List (Option Value)} {cst : List Value} {h : Hp} {i : Nat} {x : Int} {b : Int × Int} (G : Gm rho (ls, st, env, ca) cls cst h) (hi : rho[i]? = some x) (hb : b.1 ≤ x ∧ x ≤ b.2) : Gm rho (ls, st, env.set i b, ca) cls cst h := ⟨ga_set G.1 hi hb, G.2.1, G.2.2.1, G.2.2.2⟩
theorem same_at {rho t : List Int} {n : Nat} {x y : Int} (h1 : rho[n]? = some x) (h2 : (rho ++ t)[n]? = some y) : x = y := by
  have := (get_ext (t := t) h1).symm.trans h2
  exact Option.some.inj this
theorem env_at {rho : List Int} {env : List (Int × Int)} {n : Nat} {x : Int} {b : Int × Int} (g : ga rho env) (h1 : rho[n]? = some x) (h2 : env[n]? = some b) (hb : b.1 ≤ b.2) : b.1 ≤ x ∧ x ≤ b.2 := by
  obtain ⟨y, z1, z2⟩ := g.2 _ _ h2
  cases h1.symm.trans z1
  omega
abbrev seA : CT := (133, 0, [(2, 27, 0), (1, 0, 4720), (1, 0, 4720), (1, 0, 80)], (1, 0, 1), [], [], [])
abbrev seC : CT := (132, 1, [(2, 27, 0)], (9, 0, 0), [30], [], [])
abbrev seD : CT := (132, 1, [(2, 27, 0)], (9, 0, 0), [27, 30], [], [])
abbrev seCm : List (Nat × Nat) := [(141, 0)]
def seG (h0 : Hp) (pc : Nat) (ls : List (Option Value)) (st : List Value) (h : Hp) : Prop := ∃ h', Ev 1 132 (pc, ls, st, h, fl_tot) (none, h', fl_tot) ∧ TInv h' ∧ Fr [27, 30] h0 h'
def seH0 : AS := ([(2, 1, 27), (0, 0, 0), (0, 0, 0), (0, 0, 0), (0, 0, 0), (0, 0, 0)], [], [(0, 0), (1, 0)], [])
def seH27 : AS := ([(2, 1, 27), (1, 2, 0), (1, 3, 0), (1, 4, 0), (0, 0, 0), (0, 0, 0)], [], [(0, 0), (1, 0), (0, 4720), (0, 4800), (0, 5)], [])
def seH52 : AS := ([(2, 1, 27), (1, 2, 0), (1, 3, 0), (1, 4, 0), (2, 5, 16), (1, 6, 0)], [], [(0, 0), (1, 0), (0, 4720), (0, 4800), (0, 4), (1, 0), (0, 8)], [])
def seH69 : AS := ([(2, 1, 27), (1, 2, 0), (1, 3, 0), (1, 4, 0), (2, 5, 16), (1, 6, 0)], [], [(0, 0), (1, 0), (0, 4720), (0, 4798), (0, 4), (1, 0), (0, 7)], [])
def seH122 : AS := ([(2, 1, 27), (1, 2, 0), (1, 3, 0), (1, 4, 0), (0, 0, 0), (0, 0, 0)], [], [(0, 0), (1, 0), (0, 4720), (0, 4800), (0, 60)], [])
def seH141 : AS := ([(2, 1, 27), (1, 2, 0), (1, 3, 0), (1, 4, 0), (0, 0, 0), (0, 0, 0)], [(1, 5, 0), (1, 2, 0), (1, 6, 0), (2, 1, 27)], [(0, 0), (1, 0), (0, 4720), (0, 4800), (0, 59), (0, 80), (0, 4720)], [])
def seH10 : AS := ([(2, 1, 27), (1, 2, 0), (0, 0, 0), (0, 0, 0), (0, 0, 0), (0, 0, 0)], [], [(0, 0), (1, 0), (0, 4800)], [])
def seH159 : AS := ([(2, 1, 27), (0, 0, 0), (0, 0, 0), (0, 0, 0), (0, 0, 0), (0, 0, 0)], [(1, 2, 0), (2, 1, 27)], [(0, 0), (1, 0), (0, 59)], [])
def seW (c : CT) (s : List Nat) (pc : Nat) (a : AS) : Option (List (Nat × AS)) := ab_walk [seA] c s seCm 1 200 true pc a
def ab_same (a b : Nat × AS) : Bool := decide (a.1 = b.1) && decide (a.2.1 = b.2.1) && decide (a.2.2.1 = b.2.2.1) && decide (a.2.2.2.1 = b.2.2.2.1) && decide (a.2.2.2.2 = b.2.2.2.2)
def ab_sames : List (Nat × AS) → List (Nat × AS) → Bool
  | [], [] => true
  | a :: l, b :: m => ab_same a b && ab_sames l m
  | _, _ => false
theorem same_eq {a b : Nat × AS} (h : ab_same a b = true) : a = b := by
  obtain ⟨a1, a2, a3, a4, a5⟩ := a
  obtain ⟨b1, b2, b3, b4, b5⟩ := b
  simp only [ab_same, Bool.and_eq_true, decide_eq_true_eq] at h
  obtain ⟨⟨⟨⟨h1, h2⟩, h3⟩, h4⟩, h5⟩ := h
  rw [h1, h2, h3, h4, h5]
theorem sames_eq : ∀ {l m : List (Nat × AS)}, ab_sames l m = true → l = m
  | [], [], _ => rfl
  | [], _ :: _, h => by cases h
  | _ :: _, [], h => by cases h
  | a :: l, b :: m, h => by
    unfold ab_sames at h
    rw [Bool.and_eq_true] at h
    rw [same_eq h.1, sames_eq h.2]
def ab_is (w : Option (List (Nat × AS))) (m : List (Nat × AS)) : Bool := match w with
  | some l => ab_sames l m
  | none => false
theorem is_eq {w : Option (List (Nat × AS))} {m : List (Nat × AS)} (h : ab_is w m = true) : w = some m := by
  cases w with
  | none => cases h
  | some l => rw [sames_eq h]
theorem se_w0 : seW seC [4] 0 seH0 = some [(4, ([(2, 1, 27), (0, 0, 0), (0, 0, 0), (0, 0, 0), (0, 0, 0), (0, 0, 0)], [(1, 2, 0)], [(0, 0), (1, 0), (0, 60)], [(1, 27, 6, (1, 2, 0))]))] := is_eq (by decide +kernel)
theorem se_w1 : seW seC [27] 10 seH10 = some [(27, ([(2, 1, 27), (1, 2, 0), (1, 2, 0), (1, 0, 0), (0, 0, 0), (0, 0, 0)], [], [(0, 0), (1, 0), (0, 4720), (1, 0), (4800, 4800)], [(1, 27, 5, (2, 3, 30))])), (22, ([(2, 1, 27), (1, 2, 0), (0, 0, 0), (0, 0, 0), (0, 0, 0), (0, 0, 0)], [], [(0, 0), (1, 0), (4721, 4800), (1, 0), (4800, 4800)], [(1, 27, 5, (2, 3, 30))]))] := is_eq (by decide +kernel)
theorem se_w2 : seW seC [52, 122] 27 seH27 = some [(122, ([(2, 1, 27), (1, 2, 0), (1, 3, 0), (1, 0, 0), (0, 0, 0), (0, 0, 0)], [], [(0, 0), (1, 0), (0, 4720), (0, 4800), (0, 5), (1, 0), (0, 5)], [(5, 2, 3, (1, 6, 0)), (1, 27, 0, (2, 5, 2))])), (52, ([(2, 1, 27), (1, 2, 0), (1, 3, 0), (1, 4, 0), (2, 8, 16), (1, 0, 0)], [], [(0, 0), (1, 0), (0, 4720), (0, 4800), (0, 4), (1, 0), (1, 5), (1, 0), (1, 0)], [(5, 2, 1, (2, 7, 15)), (5, 2, 3, (1, 6, 0)), (1, 27, 0, (2, 5, 2))]))] := is_eq (by decide +kernel)
theorem se_w3 : seW seC [69, 27] 52 seH52 = some [(27, ([(2, 1, 27), (1, 2, 0), (1, 3, 0), (1, 4, 1), (2, 5, 16), (1, 6, 0)], [], [(0, 0), (1, 0), (0, 4720), (0, 4800), (0, 4), (1, 0), (0, 8), (0, 8)], [(5, 16, 3, (1, 7, 0))])), (69, ([(2, 1, 27), (1, 2, 0), (1, 3, 0), (1, 4, 0), (2, 5, 16), (1, 6, 0)], [], [(0, 0), (1, 0), (0, 4720), (0, 4800), (0, 4), (1, 0), (0, 7), (1, 8)], [(5, 16, 3, (1, 7, 0))]))] := is_eq (by decide +kernel)
theorem se_w4 : seW seC [52] 69 seH69 = some [(52, ([(2, 1, 27), (1, 2, 0), (1, 3, 2), (1, 4, 0), (2, 5, 16), (1, 6, 1)], [], [(0, 0), (1, 0), (0, 4720), (0, 4798), (0, 4), (1, 0), (0, 7), (1, 0), (1, 0), (1, 0), (-2147483648, 2147483647), (1, 0), (-2147483648, 2147483647)], [(11, 18, 16, (1, 12, 0)), (9, 18, 15, (1, 10, 0)), (5, 16, 1, (2, 8, 17)), (1, 27, 5, (2, 7, 30))]))] := is_eq (by decide +kernel)
theorem se_w5 : seW seC [140, 154] 122 seH122 = some [(154, ([(2, 1, 27), (1, 2, 0), (1, 3, 0), (1, 4, 0), (0, 0, 0), (0, 0, 0)], [], [(0, 0), (1, 0), (0, 4720), (0, 4800), (0, 60), (0, 60)], [(1, 27, 6, (1, 5, 0))])), (140, ([(2, 1, 27), (1, 2, 0), (1, 3, 0), (1, 4, 0), (0, 0, 0), (0, 0, 0)], [(1, 2, 0), (1, 3, 0), (1, 2, 0), (1, 7, 0), (2, 1, 27)], [(0, 0), (1, 0), (0, 4720), (0, 4800), (0, 59), (1, 60), (0, 118), (0, 4720)], [(1, 27, 6, (1, 5, 0))]))] := is_eq (by decide +kernel)
theorem se_w6 : seW seC [122] 141 seH141 = some [(122, ([(2, 1, 27), (1, 2, 0), (1, 3, 0), (1, 4, 1), (0, 0, 0), (0, 0, 0)], [], [(0, 0), (1, 0), (0, 4720), (0, 4800), (0, 59), (0, 80), (0, 4720), (0, 0)], [])), (147, ([(2, 1, 27), (1, 2, 0), (1, 3, 0), (1, 4, 0), (0, 0, 0), (0, 0, 0)], [], [(0, 0), (1, 0), (0, 4720), (0, 4800), (0, 59), (0, 80), (0, 4720), (1, 1)], []))] := is_eq (by decide +kernel)
theorem se_w7 : seW seC [159] 154 seH0 = some [(159, ([(2, 1, 27), (0, 0, 0), (0, 0, 0), (0, 0, 0), (0, 0, 0), (0, 0, 0)], [(1, 2, 0), (2, 1, 27)], [(0, 0), (1, 0), (0, 60)], [(1, 27, 6, (1, 2, 0))]))] := is_eq (by decide +kernel)
theorem se_w8 : seW seD [] 159 seH159 = some [(164, ([(2, 1, 27), (0, 0, 0), (0, 0, 0), (0, 0, 0), (0, 0, 0), (0, 0, 0)], [], [(0, 0), (1, 0), (0, 59)], [(1, 27, 6, (1, 2, 1))]))] := is_eq (by decide +kernel)
