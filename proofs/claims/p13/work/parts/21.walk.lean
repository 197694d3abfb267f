/-! measures, ends, calls, the walk -/
def iv_ (ls : List (Option Value)) (i : Nat) : Int := match ls[i]? with
  | some (some (.int x)) => x.toInt
  | _ => 0
def cme (ls : List (Option Value)) (e : Nat × Nat × Int) : Int := if e.1 = 1 then e.2.2 - iv_ ls e.2.1 else if e.1 = 2 then iv_ ls e.2.1 - e.2.2 else e.2.2
def mvv (rho : List Int) (e : Nat × AV × Int) : Int := if e.1 = 1 then e.2.2 - ((rho[e.2.1.2.1]?).getD 0 + e.2.1.2.2) else if e.1 = 2 then (rho[e.2.1.2.1]?).getD 0 + e.2.1.2.2 - e.2.2 else e.2.2
def vld (rho : List Int) (e : Nat × AV × Int) : Prop := e.1 = 0 ∨ ∃ x, rho[e.2.1.2.1]? = some x
def lexlt : List Int → List Int → Prop
  | x :: xs, y :: ys => x < y ∨ (x = y ∧ lexlt xs ys)
  | _, _ => False
def num : List Int → Nat
  | [] => 0
  | x :: xs => x.toNat * 8589934592 ^ xs.length + num xs
theorem num_bd : ∀ {xs : List Int}, (∀ x ∈ xs, 0 ≤ x ∧ x < 8589934592) → num xs < 8589934592 ^ xs.length
  | [], _ => Nat.lt_succ_self 0
  | x :: xs, h => by
    have h1 := num_bd (fun y hy => h y (List.mem_cons_of_mem _ hy))
    have h2 := h x List.mem_cons_self
    have h3 : x.toNat + 1 ≤ 8589934592 := by omega
    have h4 := Nat.mul_le_mul_right (8589934592 ^ xs.length) h3
    show x.toNat * 8589934592 ^ xs.length + num xs < 8589934592 ^ (xs.length + 1)
    rw [Nat.pow_succ, Nat.mul_comm (8589934592 ^ xs.length)]
    rw [Nat.add_mul, Nat.one_mul] at h4
    omega
theorem num_lt : ∀ {xs ys : List Int}, lexlt xs ys → xs.length = ys.length → (∀ x ∈ xs, 0 ≤ x ∧ x < 8589934592) → (∀ y ∈ ys, 0 ≤ y ∧ y < 8589934592) → num xs < num ys
  | [], ys, h, _, _, _ => by cases ys <;> cases h
  | _ :: _, [], h, _, _, _ => by cases h
  | x :: xs, y :: ys, h, hl, hx, hy => by
    have hl' : xs.length = ys.length := by simpa using hl
    show x.toNat * 8589934592 ^ xs.length + num xs < y.toNat * 8589934592 ^ ys.length + num ys
    rw [← hl']
    rcases h with h | ⟨h1, h2⟩
    · have h1 := num_bd (fun z hz => hx z (List.mem_cons_of_mem _ hz))
      have h2 := hx x List.mem_cons_self
      have h3 : x.toNat + 1 ≤ y.toNat := by omega
      have h4 := Nat.mul_le_mul_right (8589934592 ^ xs.length) h3
      rw [Nat.add_mul, Nat.one_mul] at h4
      omega
    · have h3 := num_lt h2 hl' (fun z hz => hx z (List.mem_cons_of_mem _ hz)) (fun z hz => hy z (List.mem_cons_of_mem _ hz))
      rw [h1]
      omega
theorem bnd_rho {rho : List Int} {env : List (Int × Int)} {a : AV} {b : Int × Int} (g : ga rho env) (hb : ab_bnd env a = some b) : a.1 = 1 ∧ ∃ x, rho[a.2.1]? = some x ∧ b.1 ≤ x + a.2.2 ∧ x + a.2.2 ≤ b.2 := by
  unfold ab_bnd at hb
  split at hb
  · rename_i h1
    split at hb
    · rename_i c hc
      split at hb
      · cases hb
      · cases hb
        obtain ⟨x, z1, z2⟩ := g.2 _ _ hc
        exact ⟨h1, x, z1, by simp only; omega, by simp only; omega⟩
    · cases hb
  · cases hb
theorem mb_ok {rho : List Int} {env : List (Int × Int)} {e : Nat × AV × Int} {b : Int × Int} (g : ga rho env) (hb : ab_mb env e = some b) : b.1 ≤ mvv rho e ∧ mvv rho e ≤ b.2 ∧ (e.1 = 0 ∨ e.2.1.1 = 1) := by
  unfold ab_mb at hb
  split at hb
  · rename_i h0
    cases hb
    unfold mvv
    rw [if_neg (by omega), if_neg (by omega)]
    exact ⟨Int.le_refl _, Int.le_refl _, Or.inl h0⟩
  · rename_i h0
    split at hb
    · rename_i c hc
      cases hb
      obtain ⟨t1, x, z1, z2, z3⟩ := bnd_rho g hc
      unfold mvv
      rw [if_pos h0, z1]
      simp only [Option.getD_some]
      exact ⟨by omega, by omega, Or.inr t1⟩
    · cases hb
  · rename_i h0
    split at hb
    · rename_i c hc
      cases hb
      obtain ⟨t1, x, z1, z2, z3⟩ := bnd_rho g hc
      unfold mvv
      rw [if_neg (by omega), if_pos h0, z1]
      simp only [Option.getD_some]
      exact ⟨by omega, by omega, Or.inr t1⟩
    · cases hb
  · cases hb
/-- a part of a measure, read off the locals -/
theorem cme_ok {rho : List Int} {avs : List AV} {ls : List (Option Value)} {e : Nat × Nat × Int} (g : gl rho avs ls) (h : e.1 = 0 ∨ ((avs[e.2.1]?).getD (0, 0, 0)).1 = 1) : cme ls e = mvv rho (e.1, (avs[e.2.1]?).getD (0, 0, 0), e.2.2) := by
  unfold cme mvv
  simp only
  by_cases h1 : e.1 = 1 ∨ e.1 = 2
  · have h2 : ((avs[e.2.1]?).getD (0, 0, 0)).1 = 1 := by omega
    cases ha : avs[e.2.1]? with
    | none => rw [ha] at h2; cases h2
    | some a =>
      rw [ha] at h2
      simp only [Option.getD_some] at h2 ⊢
      obtain ⟨v, e1, e2⟩ := (g.2 _ _ ha).2 (by omega)
      obtain ⟨x, y, z1, rfl, z2⟩ := gv_int h2 e2
      have : iv_ ls e.2.1 = y.toInt := by unfold iv_; rw [e1]
      rw [this, z1]
      simp only [Option.getD_some]
      rw [z2]
  · rw [if_neg (by omega), if_neg (by omega), if_neg (by omega), if_neg (by omega)]
theorem lt_ok {rho : List Int} {env : List (Int × Int)} {avs : List AV} {ls : List (Option Value)} (ge : ga rho env) (g : gl rho avs ls) : ∀ {m : List (Nat × Nat × Int)} {ys : List (Nat × AV × Int)}, ab_lt env (ab_ms avs m) ys = true → lexlt (m.map (cme ls)) (ys.map (mvv rho))
  | [], ys, h => by cases ys <;> cases h
  | _ :: _, [], h => by cases h
  | e :: m, y :: ys, h => by
    have h' : ab_lt env ((e.1, (avs[e.2.1]?).getD (0, 0, 0), e.2.2) :: ab_ms avs m) (y :: ys) = true := h
    unfold ab_lt at h'
    show cme ls e < mvv rho y ∨ (cme ls e = mvv rho y ∧ lexlt (m.map (cme ls)) (ys.map (mvv rho)))
    split at h'
    · rename_i hc
      simp only at hc
      obtain ⟨c1, c2, c3⟩ := hc
      right
      refine ⟨?_, lt_ok ge g h'⟩
      rcases c3 with c3 | ⟨c3, c4, c5, c6, c7⟩
      · rw [cme_ok g (Or.inl c3)]
        unfold mvv
        simp only
        rw [if_neg (by omega), if_neg (by omega), if_neg (by omega), if_neg (by omega), c2]
      · rw [cme_ok g (Or.inr c4)]
        unfold mvv
        simp only
        rw [c6, c7, c1, c2]
    · split at h'
      · rename_i hc
        simp only at hc
        obtain ⟨c1, c2, c3, c4, c5, c6, c7⟩ := hc
        left
        rw [cme_ok g (Or.inr c4)]
        unfold mvv
        simp only
        rw [if_pos c3, if_pos (by omega), c6, c2]
        omega
      · split at h'
        · rename_i hc
          simp only at hc
          obtain ⟨c1, c2, c3, c4, c5, c6, c7⟩ := hc
          left
          rw [cme_ok g (Or.inr c4)]
          unfold mvv
          simp only
          rw [if_neg (by omega), if_pos c3, if_neg (by omega), if_pos (by omega), c6, c2]
          omega
        · split at h'
          · rename_i bx by' hbx hby
            have h1 := mb_ok ge hbx
            have h2 := mb_ok ge hby
            have h3 := of_decide_eq_true h'
            left
            rw [cme_ok g h1.2.2]
            omega
          · cases h'
theorem vld_ext {rho t : List Int} {e : Nat × AV × Int} (h : vld rho e) : vld (rho ++ t) e ∧ mvv (rho ++ t) e = mvv rho e := by
  rcases h with h | ⟨x, h⟩
  · exact ⟨Or.inl h, by unfold mvv; rw [if_neg (by omega), if_neg (by omega), if_neg (by omega), if_neg (by omega)]⟩
  · exact ⟨Or.inr ⟨x, get_ext h⟩, by unfold mvv; rw [get_ext h, h]⟩
theorem mr_ok {rho : List Int} {env : List (Int × Int)} {avs : List AV} {ls : List (Option Value)} {m : List (Nat × Nat × Int)} (ge : ga rho env) (g : gl rho avs ls) (h : ab_mr env (ab_ms avs m) = true) : (∀ x ∈ m.map (cme ls), 0 ≤ x ∧ x < 8589934592) ∧ (∀ y ∈ ab_ms avs m, vld rho y) ∧ m.map (cme ls) = (ab_ms avs m).map (mvv rho) := by
  have key : ∀ e ∈ m, (0 ≤ cme ls e ∧ cme ls e < 8589934592) ∧ vld rho (e.1, (avs[e.2.1]?).getD (0, 0, 0), e.2.2) ∧ cme ls e = mvv rho (e.1, (avs[e.2.1]?).getD (0, 0, 0), e.2.2) := by
    intro e he
    have h1 := List.all_eq_true.mp h (e.1, (avs[e.2.1]?).getD (0, 0, 0), e.2.2) (List.mem_map.mpr ⟨e, he, rfl⟩)
    split at h1
    · rename_i b hb
      simp only [Bool.and_eq_true, decide_eq_true_eq] at h1
      have h2 := mb_ok ge hb
      have h3 := cme_ok g h2.2.2
      refine ⟨by rw [h3]; omega, ?_, h3⟩
      rcases h2.2.2 with z | z
      · exact Or.inl z
      · unfold ab_mb at hb
        split at hb
        · rename_i z0; exact Or.inl z0
        · split at hb
          · rename_i c hc
            obtain ⟨-, x, z1, -⟩ := bnd_rho ge hc
            exact Or.inr ⟨x, z1⟩
          · cases hb
        · split at hb
          · rename_i c hc
            obtain ⟨-, x, z1, -⟩ := bnd_rho ge hc
            exact Or.inr ⟨x, z1⟩
          · cases hb
        · cases hb
    · cases h1
  refine ⟨fun x hx => ?_, fun y hy => ?_, ?_⟩
  · obtain ⟨e, he, rfl⟩ := List.mem_map.mp hx
    exact (key e he).1
  · obtain ⟨e, he, rfl⟩ := List.mem_map.mp hy
    exact (key e he).2.1
  · unfold ab_ms
    rw [List.map_map]
    exact List.map_congr_left fun e he => (key e he).2.2
/-- what the checker holds of arguments holds -/
theorem holds_ok {rho : List Int} {avs : List AV} {env : List (Int × Int)} {ca : List (Nat × Nat × Nat × AV)} {as : List Value} {h : Hp} {p : Nat × Nat × Int × Int} (g1 : ga rho env) (g4 : gc rho h ca) (ga' : ∀ (i : Nat) (a : AV), avs[i]? = some a → ∃ v, as[i]? = some v ∧ gv rho a v) (hh : ab_holds avs env ca p = true) : qOK as h p := by
  unfold ab_holds at hh
  split at hh
  · rename_i a ha
    obtain ⟨v, e1, e2⟩ := ga' _ _ ha
    unfold qOK
    split at hh
    · rename_i h9
      rw [if_pos h9]
      split at hh
      · rename_i b hb
        obtain ⟨y, -, rfl, k2, -⟩ := bnd_ok g1 e2 hb
        simp only [Bool.and_eq_true, decide_eq_true_eq] at hh
        exact ⟨y, e1, by omega, by omega⟩
      · cases hh
    · rename_i h9
      rw [if_neg h9]
      split at hh
      · rename_i h2
        obtain ⟨r, z1, rfl, z2⟩ := gv_ref h2 e2
        split at hh
        · rename_i x hx
          unfold ab_find at hx
          obtain ⟨e, he, rfl⟩ := Option.map_eq_some_iff.mp hx
          have hm := List.mem_of_find?_eq_some he
          have hp := List.find?_some he
          simp only [Bool.and_eq_true, beq_iff_eq] at hp
          obtain ⟨r', q1, q2, -, q3⟩ := g4 e hm
          rw [hp.1] at q1
          have hrr : r' = r := by
            have := z1.symm.trans q1
            simp only [Option.some.injEq] at this
            omega
          subst hrr
          split at hh
          · rename_i b hb
            obtain ⟨y, k1, k2, k3, -⟩ := bnd_ok g1 q3 hb
            unfold ab_cv at k2
            rw [if_pos k1, hp.2] at k2
            cases k2
            simp only [Bool.and_eq_true, decide_eq_true_eq] at hh
            exact ⟨r', e1, by omega, by omega⟩
          · cases hh
        · cases hh
      · cases hh
  · cases hh
theorem bit_of {x : Int32} (h : 0 ≤ x.toInt ∧ x.toInt ≤ 1) : fl_bit x = true := by
  simp only [fl_bit, Bool.or_eq_true, decide_eq_true_eq]
  rcases (by omega : x.toInt = 0 ∨ x.toInt = 1) with z | z
  · exact Or.inl (i_eq.mpr z)
  · exact Or.inr (i_eq.mpr z)
/-- the end of a method -/
theorem ret_ok {c : CT} {avs : List AV} {q : Smi} {s : AS} {rho : List Int} {ls : List (Option Value)} {st : List Value} {h h0 : Hp} {as : List Value} {pc : Nat} (hq : ab_ret c avs q s = true) (hc : fl_code c.1 pc = some q) (G : Gm rho s ls st h) (hT : TInv h) (hF : Fr c.2.2.2.2.1 h0 h) (ga' : c.2.2.2.2.2.2 = [] ∨ ∀ (i : Nat) (a : AV), avs[i]? = some a → ∃ v, as[i]? = some v ∧ gv rho a v) : Gd c as h0 pc ls st h := by
  obtain ⟨op, a, nx⟩ := q
  obtain ⟨als, ast, env, ca⟩ := s
  obtain ⟨g1, g2, g3, g4⟩ := G
  have hpost : c.2.2.2.2.2.2.all (ab_holds avs env ca) = true → ∀ p ∈ c.2.2.2.2.2.2, qOK as h p := by
    intro hall p hp
    rcases ga' with z | z
    · rw [z] at hp; cases hp
    · exact holds_ok g1 g4 z (List.all_eq_true.mp hall p hp)
  have hnil : c.2.2.2.2.2.2.isEmpty = true → ∀ p ∈ c.2.2.2.2.2.2, qOK as h p := by
    intro hz p hp
    rw [List.isEmpty_iff.mp hz] at hp
    cases hp
  unfold ab_ret at hq
  simp only at hq g3
  split at hq
  · simp only [Bool.and_eq_true, beq_iff_eq] at hq
    obtain ⟨⟨q1, q2⟩, q3⟩ := hq
    rw [List.isEmpty_iff.mp q3] at g3
    have : st = [] := g3
    subst this
    exact ⟨none, h, Ev.ret hc rfl, hT, by unfold retOK; rw [if_pos q1], hF, fun _ => hnil q2⟩
  · split at hq
    · rename_i o x
      obtain ⟨v, w, rfl, gx, hw⟩ := g3
      have : w = [] := hw
      subst this
      simp only [Bool.and_eq_true, beq_iff_eq, Bool.or_eq_true, decide_eq_true_eq] at hq
      obtain ⟨⟨⟨q1, q2⟩, q3⟩, q4⟩ := hq
      have hval := fits_ok g1 q2 gx
      obtain ⟨y, rfl, hy⟩ := val_int q1 hval
      have hs : o = 0 ∨ fl_bit y = true := by
        rcases q3 with q3 | q3
        · exact Or.inl q3
        · exact Or.inr (bit_of (by omega))
      refine ⟨some (.int y), h, Ev.ret hc (by simp only [fl_step]; exact if_pos hs), hT, ?_, hF, fun ht => ?_⟩
      · unfold retOK
        rw [if_neg (by omega)]
        exact ⟨_, rfl, hval⟩
      · rcases q4 with q4 | q4
        · exact hpost q4
        · exfalso
          obtain ⟨y', -, e2, k2, -⟩ := bnd_ok g1 gx q4
          cases e2
          rcases ht with ⟨x', e3, e4⟩ | ⟨r, e3⟩
          · cases e3
            exact e4 (i_eq.mpr (by rw [Int32.toInt_zero]; simp only at k2; omega))
          · cases e3
    · cases hq
  · split at hq
    · rename_i x
      obtain ⟨v, w, rfl, gx, hw⟩ := g3
      have : w = [] := hw
      subst this
      simp only [Bool.and_eq_true, beq_iff_eq] at hq
      obtain ⟨⟨q1, q2⟩, q3⟩ := hq
      obtain ⟨y, rfl⟩ := gv_long q2 gx
      refine ⟨some (.long y), h, Ev.ret hc rfl, hT, ?_, hF, fun _ => hnil q3⟩
      unfold retOK valOK
      rw [if_neg (by omega)]
      exact ⟨_, rfl, by rw [q1]; exact ⟨y, rfl⟩⟩
    · cases hq
  · split at hq
    · rename_i x
      obtain ⟨v, w, rfl, gx, hw⟩ := g3
      have : w = [] := hw
      subst this
      simp only [Bool.and_eq_true, beq_iff_eq, Bool.or_eq_true] at hq
      obtain ⟨⟨q1, q2⟩, q4⟩ := hq
      have hval := fits_ok g1 q2 gx
      obtain ⟨o, rfl⟩ := val_ref q1 hval
      refine ⟨some (fl_rv o), h, Ev.ret hc (by cases o <;> rfl), hT, ?_, hF, fun ht => ?_⟩
      · unfold retOK
        rw [if_neg (by omega)]
        exact ⟨_, rfl, hval⟩
      · rcases q4 with q4 | q4
        · exact hpost q4
        · exfalso
          unfold gv at gx
          rw [q4] at gx
          rw [gx] at ht
          rcases ht with ⟨x', e3, e4⟩ | ⟨r, e3⟩ <;> cases e3
    · cases hq
  · cases hq
