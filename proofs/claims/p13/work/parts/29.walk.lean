/-! THE WALK over steps with facts: calls of given methods are gone through, others are arrivals -/
/-- an arrival: code (0 a stop, 1 a call, 2 an end, 3 a bound that fails), (place; or method, its locals, arguments, the place behind), the state -/
abbrev AR : Type := Nat × (Nat × Nat × Nat × Nat) × XS
/-- stops (method, place), methods gone through, bounds (method, place, low, high) for what a step leaves on the stack -/
abbrev SP : Type := List (Nat × Nat) × List Nat × List (Nat × Nat × Int × Int)
def sg_cat (l : List (Option (List AR))) : Option (List AR) := match l with
  | [] => some []
  | none :: _ => none
  | some x :: l => (match sg_cat l with
    | some y => some (x ++ y)
    | none => none)
def sg_ret (q : Smi) (s : AS) : Bool := match q.1, q.2.1, s.2.1 with
  | 21, _, [] => true
  | 22, [o], [x] => x.1 == 1 && (o == 0 || (match ab_bnd s.2.2.1 x with
    | some b => decide (0 ≤ b.1) && decide (b.2 ≤ 1)
    | none => false))
  | _, _, _ => false
/-- a call's method, its locals, how many values it takes -/
def sg_call (q : Smi) (s : AS) : Option (Nat × Nat × Nat) := match q.2.1 with
  | [m, k] => match sm_ms[m.toNat]? with
    | some y => if k.toNat + (if q.1 = 19 then 0 else 1) ≤ s.2.1.length ∧ ab_cat (s.2.1.drop (k.toNat + (if q.1 = 19 then 0 else 1))) ≤ 8 ∧ ab_recv q.1 m.toNat (s.2.1.take (k.toNat + (if q.1 = 19 then 0 else 1))).reverse = true ∧ (ab_loc (s.2.1.take (k.toNat + (if q.1 = 19 then 0 else 1))).reverse).length ≤ y.2.2.1 then
        some (m.toNat, y.2.2.1, k.toNat + (if q.1 = 19 then 0 else 1)) else none
    | none => none
  | _ => none
/-- a bound on what lies on the stack: where it fails, where it holds -/
def sg_asm (lo hi : Int) (x : XS) : Option (List XS × XS) := match x.1.2.1 with
  | a :: _ => if ab_z x.1.2.2.1 = true then (match ab_bnd x.1.2.2.1 a with
    | some b => some ((if b.1 < lo then [(x.1, (2, 0, a, (1, 0, lo), 0) :: x.2.1, x.2.2)] else []) ++ (if hi < b.2 then [(x.1, (4, 0, a, (1, 0, hi), 0) :: x.2.1, x.2.2)] else []), ((x.1.1, x.1.2.1, ab_set x.1.2.2.1 a (ab_max b.1 lo, ab_min b.2 hi), x.1.2.2.2), x.2.1, x.2.2))
    | none => none) else none
  | [] => none
def sg_mods : List Nat := List.range' 31 62
def sg_walk (P : SP) : Nat → Nat → Bool → Nat → Nat → XS → Option (List AR)
  | 0, _, _, _, _, _ => none
  | f + 1, k, first, m, pc, x => if first = false ∧ (m, pc) ∈ P.1 then some [(0, (pc, 0, 0, 0), x)] else match fl_code m pc with
    | none => none
    | some q => if 21 ≤ q.1 ∧ q.1 ≤ 24 then (if sg_ret q x.1 = true then some [(2, (0, 0, 0, 0), x)] else none)
      else if 18 ≤ q.1 ∧ q.1 ≤ 20 then (match sg_call q x.1 with
        | none => none
        | some (m2, nL, kk) => if m2 ∈ P.2.1 then (match k with
            | 0 => none
            | k' + 1 => (match sg_walk P f k' false m2 0 ((ab_loc (x.1.2.1.take kk).reverse ++ List.replicate (nL - (ab_loc (x.1.2.1.take kk).reverse).length) (0, 0, 0), [], x.1.2.2.1, x.1.2.2.2), x.2.1, x.2.2) with
              | none => none
              | some l => sg_cat (l.map (fun a => if a.1 = 2 then sg_walk P f (k' + 1) false m q.2.2 ((x.1.1, a.2.2.1.2.1 ++ x.1.2.1.drop kk, a.2.2.1.2.2.1, a.2.2.1.2.2.2), a.2.2.2.1, a.2.2.2.2) else if a.1 = 3 then some [a] else none))))
          else some [(1, (m2, nL, kk, q.2.2), x)])
      else (match ab_step sg_mods q x.1 with
        | none => none
        | some l => sg_cat (l.map (fun e => (match sx_new q x.1 e x.2.2.length with
          | none => none
          | some (fa, la) => (match P.2.2.find? (fun z => z.1 == m && z.2.1 == pc) with
            | none => sg_walk P f k false m e.1 (e.2, fa ++ x.2.1, la ++ x.2.2)
            | some z => (match sg_asm z.2.2.1 z.2.2.2 (e.2, fa ++ x.2.1, la ++ x.2.2) with
              | none => none
              | some (bads, good) => (match sg_walk P f k false m e.1 good with
                | none => none
                | some l2 => some (bads.map (fun b => (3, (pc, 0, 0, 0), b)) ++ l2))))))))
theorem sgcat_ok : ∀ {α : Type} {g : α → Option (List AR)} {l : List α} {L : List AR}, sg_cat (l.map g) = some L → ∀ e ∈ l, ∃ L', g e = some L' ∧ ∀ x ∈ L', x ∈ L
  | _, _, [], _, _, e, he => by cases he
  | _, g, a :: l, L, h, e, he => by
    rw [List.map_cons] at h
    cases hg : g a with
    | none => rw [hg] at h; cases h
    | some x =>
      rw [hg] at h
      unfold sg_cat at h
      split at h
      · rename_i y hy
        cases h
        rcases List.mem_cons.mp he with rfl | he
        · exact ⟨x, hg, fun z hz => List.mem_append_left _ hz⟩
        · obtain ⟨L', q1, q2⟩ := sgcat_ok hy e he
          exact ⟨L', q1, fun z hz => List.mem_append_right _ (q2 z hz)⟩
      · cases h
theorem sgret_ok {q : Smi} {s : AS} {rho : List Int} {ls : List (Option Value)} {st : List Value} {h : Hp} {n pc : Nat} (hq : sg_ret q s = true) (G : Gm rho s ls st h) : fl_step q (pc, ls, st, h, n) = some (.inr (.inr st.head?)) ∧ st = st.head?.toList := by
  obtain ⟨op, a, nx⟩ := q
  obtain ⟨als, ast, env, ca⟩ := s
  unfold sg_ret at hq
  simp only at hq
  split at hq
  · have : st = [] := G.2.2.1
    subst this
    exact ⟨rfl, rfl⟩
  · rename_i o x
    simp only [Bool.and_eq_true, beq_iff_eq, Bool.or_eq_true] at hq
    obtain ⟨v, w, rfl, hv, hw⟩ := G.2.2.1
    have : w = [] := hw
    subst this
    obtain ⟨k1, y, rfl, z1⟩ := xv_int hq.1 hv
    refine ⟨?_, rfl⟩
    have : o = 0 ∨ fl_bit y = true := by
      rcases hq.2 with h | h
      · exact Or.inl h
      · split at h
        · rename_i b hb
          simp only [Bool.and_eq_true, decide_eq_true_eq] at h
          obtain ⟨y', -, e, h3, -⟩ := bnd_ok G.1 hv hb
          cases e
          exact Or.inr (bit_of (by omega))
        · cases h
    simp only [fl_step, if_pos this]
    rfl
  · cases hq
theorem sgcall_ok {q : Smi} {s : AS} {rho : List Int} {ls : List (Option Value)} {st : List Value} {h : Hp} {pc m2 nL kk : Nat} (h1 : 18 ≤ q.1 ∧ q.1 ≤ 20) (hq : sg_call q s = some (m2, nL, kk)) (G : Gm rho s ls st h) :
    ∃ y, sm_ms[m2]? = some y ∧ y.2.2.1 = nL ∧ gs rho (s.2.1.take kk).reverse (st.take kk).reverse ∧ gs rho (s.2.1.drop kk) (st.drop kk) ∧ (fl_args (st.take kk).reverse).length ≤ nL ∧ (ab_loc (s.2.1.take kk).reverse).length = (fl_args (st.take kk).reverse).length ∧ fl_step q (pc, ls, st, h, fl_tot) = some (.inr (.inl (m2, (st.take kk).reverse, st.drop kk, q.2.2))) := by
  obtain ⟨op, a, nx⟩ := q
  obtain ⟨als, ast, env, ca⟩ := s
  obtain ⟨g1, g2, g3, g4⟩ := G
  simp only at g1 g2 g3 g4 h1
  unfold sg_call at hq
  simp only at hq
  split at hq
  · rename_i m k
    generalize hkk : k.toNat + (if op = 19 then 0 else 1) = k9 at hq
    split at hq
    · rename_i y hy
      split at hq
      · rename_i hc
        obtain ⟨c1, c2, c3, c4⟩ := hc
        cases hq
        have hst : ast.length = st.length := gs_len g3
        obtain ⟨gt, gd⟩ := gs_td kk g3
        have gr := gs_rev gt
        have hcat : fl_cat (st.drop kk) ≤ 8 := Nat.le_trans (cat_ok gd) c2
        have hl := loc_ok gr
        refine ⟨y, hy, rfl, gr, gd, by rw [← hl.1]; exact c4, hl.1, ?_⟩
        unfold ab_recv at c3
        have hhd : ∀ {A : AV} {L : List AV}, (ast.take kk).reverse = A :: L → ∃ w W, (st.take kk).reverse = w :: W ∧ gv rho A w := by
          intro A L hA
          rw [hA] at gr
          obtain ⟨w, W, z1, z2, -⟩ := gr
          exact ⟨w, W, z1, z2⟩
        have o1 : op = 18 ∨ op = 19 ∨ op = 20 := by omega
        rcases o1 with o1 | o1 | o1
        · subst o1
          rw [if_neg (by decide)] at hkk
          simp only [fl_step, fl_call, hkk]
          rw [if_neg (by omega), if_pos hcat]
          simp only [if_true]
          simp only [Bool.or_eq_true, Bool.and_eq_true, beq_iff_eq] at c3
          rcases c3 with o8 | o8
          · exact absurd o8 (by decide)
          · split at o8
            · rename_i A L hA
              obtain ⟨w, W, z1, z2⟩ := hhd hA
              simp only [Bool.or_eq_true, Bool.and_eq_true, beq_iff_eq, decide_eq_true_eq] at o8
              obtain ⟨p1, p2⟩ := o8
              obtain ⟨r, k1, rfl, k2⟩ := gv_ref p1 z2
              rw [z1]
              simp only
              rcases p2 with p2 | ⟨p2, p3⟩
              · exact absurd p2 (by decide)
              · split at p3
                · rename_i code size tys y' hK hy'
                  obtain ⟨w1, w2⟩ := ab_kdK (by rw [k2]; exact p2) (by rw [k2]; exact hK)
                  rw [if_pos ⟨w1, by rw [w2, hy']; exact of_decide_eq_true (by simpa using p3)⟩]
                · cases p3
            · cases o8
        · subst o1
          rw [if_pos rfl] at hkk
          simp only [fl_step, fl_call, hkk]
          rw [if_neg (by omega), if_pos hcat]
          rw [if_neg (by decide), if_neg (by decide)]
        · subst o1
          rw [if_neg (by decide)] at hkk
          simp only [fl_step, fl_call, hkk]
          rw [if_neg (by omega), if_pos hcat]
          simp only [Bool.or_eq_true, Bool.and_eq_true, beq_iff_eq] at c3
          rcases c3 with o8 | o8
          · exact absurd o8 (by decide)
          · split at o8
            · rename_i A L hA
              obtain ⟨w, W, z1, z2⟩ := hhd hA
              simp only [Bool.and_eq_true, beq_iff_eq] at o8
              obtain ⟨r, k1, rfl, k2⟩ := gv_ref o8.1 z2
              rw [if_neg (by decide), if_pos trivial, z1]
            · cases o8
      · cases hq
    · cases hq
  · cases hq
theorem asm_ok {lo hi : Int} {x : XS} {bads : List XS} {good : XS} {rho : List Int} {h0 h : Hp} {ls : List (Option Value)} {st : List Value} (hq : sg_asm lo hi x = some (bads, good)) (X : XM rho h0 x ls st h) : (∃ b ∈ bads, XM rho h0 b ls st h) ∨ XM rho h0 good ls st h := by
  obtain ⟨⟨als, ast, env, ca⟩, fx, lg⟩ := x
  unfold sg_asm at hq
  simp only at hq
  split at hq
  · rename_i a st'
    split at hq
    · rename_i hz
      split at hq
      · rename_i b hb
        cases hq
        have hz0 := z_rho (s := (als, (a :: st'), env, ca)) X.1.1 hz
        obtain ⟨v, w, hst, hv, hw⟩ := X.1.2.2.1
        obtain ⟨y, ha1, rfl, hy, hr⟩ := bnd_ok X.1.1 hv hb
        obtain ⟨k1, y', e, z1⟩ := xv_int ha1 hv
        cases e
        have hc : ∀ c : Int, xv rho (1, 0, c) = c := fun c => by
          unfold xv
          rw [hz0]
          simp
        by_cases h1 : y.toInt < lo
        · refine Or.inl ⟨_, List.mem_append_left _ (by rw [if_pos (by omega)]; exact List.mem_singleton.mpr rfl), ?_⟩
          refine ⟨X.1, X.2.1, X.2.2.1, fun f hf => ?_⟩
          rcases List.mem_cons.mp hf with rfl | hf
          · refine ⟨k1, ⟨0, hz0⟩, Nat.zero_le _, Or.inl (show 2 < 20 by decide), ?_⟩
            unfold fok
            simp only
            rw [if_neg (by decide), if_pos (by decide), hc, ← z1]
            exact h1
          · exact X.2.2.2 f hf
        · by_cases h2 : hi < y.toInt
          · refine Or.inl ⟨_, List.mem_append_right _ (by rw [if_pos (by omega)]; exact List.mem_singleton.mpr rfl), ?_⟩
            refine ⟨X.1, X.2.1, X.2.2.1, fun f hf => ?_⟩
            rcases List.mem_cons.mp hf with rfl | hf
            · refine ⟨k1, ⟨0, hz0⟩, Nat.zero_le _, Or.inl (show 4 < 20 by decide), ?_⟩
              unfold fok
              simp only
              rw [if_neg (by decide), if_pos (by decide), hc, ← z1]
              exact h2
            · exact X.2.2.2 f hf
          · refine Or.inr ⟨⟨?_, X.1.2⟩, X.2⟩
            refine ga_set X.1.1 hr ?_
            simp only [ab_max, ab_min]
            constructor
            · split <;> omega
            · split <;> omega
      · cases hq
    · cases hq
  · cases hq
/-- what an arrival means -/
def ARM (rho : List Int) (h0 : Hp) (k m pc : Nat) (ls : List (Option Value)) (st : List Value) (h : Hp) (a : AR) : Prop :=
  ∃ (t : List Int) (ls' : List (Option Value)) (st' : List Value) (h' : Hp), XM (rho ++ t) h0 a.2.2 ls' st' h' ∧ TInv h' ∧ (match a.1 with
    | 0 => ∀ d r, k ≤ d → Ev d m (a.2.1.1, ls', st', h', fl_tot) r → Ev d m (pc, ls, st, h, fl_tot) r
    | 1 => gs (rho ++ t) (a.2.2.1.2.1.take a.2.1.2.2.1).reverse (st'.take a.2.1.2.2.1).reverse ∧ gs (rho ++ t) (a.2.2.1.2.1.drop a.2.1.2.2.1) (st'.drop a.2.1.2.2.1) ∧ ∀ d v h2 r, k ≤ d + 1 → Ev d a.2.1.1 (0, fl_enter a.2.1.2.1 (st'.take a.2.1.2.2.1).reverse, [], h', fl_tot) (v, h2, fl_tot) → Ev (d + 1) m (a.2.1.2.2.2, ls', v.toList ++ st'.drop a.2.1.2.2.1, h2, fl_tot) r → Ev (d + 1) m (pc, ls, st, h, fl_tot) r
    | 2 => st' = st'.head?.toList ∧ ∀ d, k ≤ d → Ev d m (pc, ls, st, h, fl_tot) (st'.head?, h', fl_tot)
    | _ => True)
theorem ARM.pre {rho t0 : List Int} {h0 : Hp} {k m pc pc1 : Nat} {ls ls1 : List (Option Value)} {st st1 : List Value} {h h1 : Hp} {a : AR} (A : ARM (rho ++ t0) h0 k m pc1 ls1 st1 h1 a) (hs : ∀ d r, k ≤ d → Ev d m (pc1, ls1, st1, h1, fl_tot) r → Ev d m (pc, ls, st, h, fl_tot) r) : ARM rho h0 k m pc ls st h a := by
  obtain ⟨t, ls', st', h', X, T, E⟩ := A
  refine ⟨t0 ++ t, ls', st', h', by rw [← List.append_assoc]; exact X, T, ?_⟩
  split at E
  · exact fun d r hd ev => hs d r hd (E d r hd ev)
  · rw [← List.append_assoc]
    exact ⟨E.1, E.2.1, fun d v h2 r hd e1 e2 => hs _ _ hd (E.2.2 d v h2 r hd e1 e2)⟩
  · exact ⟨E.1, fun d hd => hs _ _ hd (E.2 d hd)⟩
  · trivial
theorem sg_ok (P : SP) : ∀ (f k : Nat) (first : Bool) (m pc : Nat) (x : XS) (L : List AR) (rho : List Int) (h0 : Hp) (ls : List (Option Value)) (st : List Value) (h : Hp), sg_walk P f k first m pc x = some L → XM rho h0 x ls st h → TInv h → ∃ a ∈ L, ARM rho h0 k m pc ls st h a := by
  intro f
  induction f with
  | zero => intro k first m pc x L rho h0 ls st h hg; cases hg
  | succ f ih =>
    intro k first m pc x L rho h0 ls st h hg X hT
    have X0 : XM (rho ++ []) h0 x ls st h := by rw [nil_app]; exact X
    unfold sg_walk at hg
    split at hg
    · cases hg
      exact ⟨_, List.mem_singleton.mpr rfl, [], ls, st, h, X0, hT, fun d r _ ev => ev⟩
    · cases hc : fl_code m pc with
      | none => rw [hc] at hg; cases hg
      | some q =>
        rw [hc] at hg
        simp only at hg
        by_cases hr : 21 ≤ q.1 ∧ q.1 ≤ 24
        · rw [if_pos hr] at hg
          split at hg
          · rename_i hret
            cases hg
            obtain ⟨r1, r2⟩ := sgret_ok (n := fl_tot) (pc := pc) hret X.1
            exact ⟨_, List.mem_singleton.mpr rfl, [], ls, st, h, X0, hT, r2, fun d _ => Ev.ret hc r1⟩
          · cases hg
        · rw [if_neg hr] at hg
          by_cases hk : 18 ≤ q.1 ∧ q.1 ≤ 20
          · rw [if_pos hk] at hg
            cases hcl : sg_call q x.1 with
            | none => rw [hcl] at hg; cases hg
            | some z =>
              obtain ⟨m2, nL, kk⟩ := z
              rw [hcl] at hg
              simp only at hg
              obtain ⟨y, y1, y2, y3, y4, y5, y6, y7⟩ := sgcall_ok (pc := pc) hk hcl X.1
              split at hg
              · cases k with
                | zero => cases hg
                | succ k' =>
                  simp only at hg
                  cases hw : sg_walk P f k' false m2 0 ((ab_loc (x.1.2.1.take kk).reverse ++ List.replicate (nL - (ab_loc (x.1.2.1.take kk).reverse).length) (0, 0, 0), [], x.1.2.2.1, x.1.2.2.2), x.2.1, x.2.2) with
                  | none => rw [hw] at hg; cases hg
                  | some l =>
                    rw [hw] at hg
                    simp only at hg
                    have X2 : XM rho h0 ((ab_loc (x.1.2.1.take kk).reverse ++ List.replicate (nL - (ab_loc (x.1.2.1.take kk).reverse).length) (0, 0, 0), [], x.1.2.2.1, x.1.2.2.2), x.2.1, x.2.2) (fl_enter nL (st.take kk).reverse) [] h := by
                      refine ⟨⟨X.1.1, ?_, rfl, X.1.2.2.2⟩, X.2⟩
                      have := pad_ok (loc_ok y3) (nL - (fl_args (st.take kk).reverse).length)
                      unfold fl_enter
                      simp only
                      rw [y6]
                      exact this
                    obtain ⟨a, ha, t, ls2, st2, h2, A1, A2, A3⟩ := ih k' false m2 0 _ l rho h0 _ _ h hw X2 hT
                    obtain ⟨L', w1, w2⟩ := sgcat_ok hg a ha
                    split at w1
                    · rename_i ha2
                      rw [ha2] at A3
                      obtain ⟨A4, A5⟩ := A3
                      have X3 : XM (rho ++ t) h0 ((x.1.1, a.2.2.1.2.1 ++ x.1.2.1.drop kk, a.2.2.1.2.2.1, a.2.2.1.2.2.2), a.2.2.2.1, a.2.2.2.2) ls (st2 ++ st.drop kk) h2 := ⟨⟨A1.1.1, gl_ext X.1.2.1, gs_app A1.1.2.2.1 (gs_ext y4), A1.1.2.2.2⟩, A1.2⟩
                      obtain ⟨b, hb, B⟩ := ih (k' + 1) false m q.2.2 _ L' (rho ++ t) h0 _ _ h2 w1 X3 A2
                      refine ⟨b, w2 _ hb, B.pre fun d r hd ev => ?_⟩
                      obtain ⟨d', rfl⟩ : ∃ d', d = d' + 1 := ⟨d - 1, by omega⟩
                      have hlen : (fl_args (st.take kk).reverse).length ≤ y.2.2.1 := by rw [y2]; exact y5
                      refine Ev.call hc y7 y1 hlen (v := st2.head?) (h := h2) (n := fl_tot) ?_ ?_
                      · rw [y2]
                        exact A5 d' (by omega)
                      · rw [← A4]
                        exact ev
                    · split at w1
                      · rename_i ha3
                        cases w1
                        refine ⟨a, w2 _ (List.mem_singleton.mpr rfl), t, ls2, st2, h2, A1, A2, ?_⟩
                        rw [ha3]
                        trivial
                      · cases w1
              · cases hg
                refine ⟨_, List.mem_singleton.mpr rfl, [], ls, st, h, X0, hT, by rw [nil_app]; exact y3, by rw [nil_app]; exact y4, fun d v h2 r _ e1 e2 => ?_⟩
                have hlen : (fl_args (st.take kk).reverse).length ≤ y.2.2.1 := by rw [y2]; exact y5
                exact Ev.call hc y7 y1 hlen (by rw [y2]; exact e1) e2
          · rw [if_neg hk] at hg
            cases hl : ab_step sg_mods q x.1 with
            | none => rw [hl] at hg; cases hg
            | some l =>
              rw [hl] at hg
              simp only at hg
              obtain ⟨s, fx, lg⟩ := x
              obtain ⟨c', e, t, s1, s2, s3, s4, s5, s6, s7⟩ := sx_ok (pc := pc) hl X hT
              obtain ⟨L', w1, w2⟩ := sgcat_ok hg e s2
              obtain ⟨pc', ls1, st1, h1, n'⟩ := c'
              simp only at s1 s2 s3 s4 s5 s6 s7 w1
              subst s6
              have go : ∀ d r, k ≤ d → Ev d m (e.1, ls1, st1, h1, fl_tot) r → Ev d m (pc, ls, st, h, fl_tot) r := fun d r _ ev => by
                rw [s3] at ev
                exact Ev.step hc s1 ev
              cases hn : sx_new q s e lg.length with
              | none => rw [hn] at w1; cases w1
              | some z =>
                obtain ⟨fa, la⟩ := z
                rw [hn] at w1
                simp only at w1
                have X1 := s4 fa la hn
                split at w1
                · obtain ⟨b, hb, B⟩ := ih k false m e.1 _ L' (rho ++ t) h0 _ _ h1 w1 X1 s5
                  exact ⟨b, w2 _ hb, B.pre go⟩
                · rename_i z hz
                  split at w1
                  · cases w1
                  · rename_i bads good hgood
                    split at w1
                    · cases w1
                    · rename_i l2 hl2
                      cases w1
                      rcases asm_ok hgood X1 with ⟨b, hb, XB⟩ | XG
                      · exact ⟨(3, (pc, 0, 0, 0), b), w2 _ (List.mem_append_left _ (List.mem_map.mpr ⟨b, hb, rfl⟩)), t, ls1, st1, h1, XB, s5, trivial⟩
                      · obtain ⟨b, hb, B⟩ := ih k false m e.1 _ l2 (rho ++ t) h0 _ _ h1 hl2 XG s5
                        exact ⟨b, w2 _ (List.mem_append_right _ hb), B.pre go⟩
