/-- the operation gives the whole number itself -/
def sx_exact (o : Int) (x y : Int × Int) : Bool := match o with
  | 0 => ab_lim (x.1 + y.1) (x.2 + y.2)
  | 1 => ab_lim (x.1 - y.2) (x.2 - y.1)
  | 2 => decide (0 ≤ x.1) && decide (0 ≤ y.1) && decide (x.2 * y.2 ≤ 2147483647)
  | 3 => decide (0 ≤ x.1) && decide (1 ≤ y.1)
  | 4 => decide (0 ≤ x.1) && decide (1 ≤ y.1)
  | _ => false
/-- what a step adds: facts, writes -/
def sx_new (q : Smi) (s : AS) (e : Nat × AS) (n : Nat) : Option (List FX × List LG) :=
  if q.1 = 6 then (match q.2.1, s.2.1 with
    | [o, t], x :: _ => if t.toNat = q.2.2 ∨ ab_z s.2.2.1 = false then some ([], []) else some ([((if e.1 = t.toNat then o else ab_neg o).toNat, 0, x, (1, 0, 0), 0)], [])
    | _, _ => some ([], []))
  else if q.1 = 7 then (match q.2.1, s.2.1 with
    | [o, t], y :: x :: _ => if t.toNat = q.2.2 then some ([], []) else some ([((if e.1 = t.toNat then o else ab_neg o).toNat, 0, x, y, 0)], [])
    | _, _ => some ([], []))
  else if q.1 = 9 then (match q.2.1, s.2.1, e.2.2.1 with
    | [_, k], v :: _, a :: _ => if a.1 = 1 ∧ v.1 = 2 ∧ v.2.2 = 31 ∧ 0 ≤ k ∧ ab_z s.2.2.1 = true then some ([(9, 31, (1, 0, k), a, n)], []) else some ([], [])
    | _, _, _ => some ([], []))
  else if q.1 = 11 ∨ q.1 = 13 then (match s.2.1, e.2.2.1 with
    | i :: v :: _, a :: _ => if a.1 = 1 ∧ i.1 = 1 ∧ v.1 = 2 ∧ 31 ≤ v.2.2 ∧ v.2.2 < 93 then some ([(9, v.2.2.toNat, i, a, n)], []) else none
    | _, _ => none)
  else if q.1 = 10 then (match q.2.1, s.2.1 with
    | [_, k], x :: v :: _ => if x.1 = 1 ∧ v.1 = 2 ∧ v.2.2 = 31 ∧ 0 ≤ k ∧ ab_z s.2.2.1 = true then some ([], [(31, (1, 0, k), x)]) else none
    | _, _ => none)
  else if q.1 = 12 ∨ q.1 = 14 then (match s.2.1 with
    | x :: i :: v :: _ => if x.1 = 1 ∧ i.1 = 1 ∧ v.1 = 2 ∧ 31 ≤ v.2.2 ∧ v.2.2 < 93 then some ([], [(v.2.2.toNat, i, x)]) else none
    | _ => none)
  else if q.1 = 5 then (match q.2.1, s.2.1, e.2.2.1 with
    | [o], y :: x :: _, a :: _ => (match ab_bnd s.2.2.1 x, ab_bnd s.2.2.1 y with
      | some bx, some by' => if a.1 = 1 ∧ a.2.1 = s.2.2.1.length ∧ a.2.2 = 0 ∧ sx_exact o bx by' = true then some ([(20 + o.toNat, a.2.1, x, y, 0)], []) else some ([], [])
      | _, _ => some ([], []))
    | _, _, _ => some ([], []))
  else if q.1 = 40 then (match q.2.1, s.2.1 with
    | lo :: df :: ts, x :: _ => if e.1 = df.toNat ∧ ab_z s.2.2.1 = true ∧ x.1 = 1 then some (ts.zipIdx.filterMap (fun p => if p.1.toNat = df.toNat then none else some (1, 0, x, (1, 0, lo + (p.2 : Int)), 0)), []) else some ([], [])
    | _, _ => some ([], []))
  else if q.1 = 16 ∨ q.1 = 29 ∨ q.1 = 30 ∨ q.1 = 31 ∨ q.1 = 41 then none
  else some ([], [])
section SX
variable {mods : List Nat} {q : Smi} {pc : Nat} {s : AS} {fx : List FX} {lg : List LG} {rho t : List Int} {cls : List (Option Value)} {cst : List Value} {h h0 : Hp} {c' : Cfg} {e : Nat × AS}
/-- nothing read, nothing written -/
theorem sx_same (X : XM rho h0 (s, fx, lg) cls cst h) (hG : Gm (rho ++ t) e.2 c'.2.1 c'.2.2.1 c'.2.2.2.1) (hh : c'.2.2.2.1 = h) : XM (rho ++ t) h0 (e.2, fx, lg) c'.2.1 c'.2.2.1 c'.2.2.2.1 := by
  obtain ⟨-, x2, x4, x5⟩ := X
  exact ⟨hG, by rw [hh, x2, xh_ext x4], x4.ext, x5.ext x4⟩
/-- a fact more -/
theorem sx_fact {ls : List (Option Value)} {st : List Value} {h' : Hp} {s' : AS} {lg' : List LG} {fa : List FX} (Y : XM rho h0 (s', fx, lg') ls st h') (hf : fxOK rho h0 fa lg') : XM rho h0 (s', fa ++ fx, lg') ls st h' := ⟨Y.1, Y.2.1, Y.2.2.1, hf.app Y.2.2.2⟩
theorem z_rho (g : ga rho s.2.2.1) (hz : ab_z s.2.2.1 = true) : rho[0]? = some 0 := by
  unfold ab_z at hz
  split at hz
  · rename_i b l hb
    rw [beq_iff_eq] at hz
    subst hz
    have := g.2 0 (0, 0) (by rw [hb]; rfl)
    obtain ⟨x, h1, h2⟩ := this
    simp only at h2
    rw [h1]
    congr 1
    omega
  · cases hz
theorem cmp_icmp {o : Int} {x y : Int32} {b : Bool} (h0 : 0 ≤ o ∧ o ≤ 5) (h : fl_cmp o x y = some b) : icmp (if b = true then o else ab_neg o).toNat x.toInt y.toInt := by
  have : o = 0 ∨ o = 1 ∨ o = 2 ∨ o = 3 ∨ o = 4 ∨ o = 5 := by omega
  rcases this with rfl | rfl | rfl | rfl | rfl | rfl <;> cases b <;> (have h := Option.some.inj h) <;> simp only [decide_eq_true_eq, decide_eq_false_iff_not, Int32.lt_iff_toInt_lt, Int32.le_iff_toInt_le, i_eq, Int.not_lt, Int.not_le, Decidable.not_not, ne_eq] at h <;> exact h
theorem o_ne9 {o : Int} (ho : 0 ≤ o ∧ o ≤ 5) (b : Bool) : ¬ (if b = true then o else ab_neg o).toNat = 9 := by
  have : o = 0 ∨ o = 1 ∨ o = 2 ∨ o = 3 ∨ o = 4 ∨ o = 5 := by omega
  rcases this with rfl | rfl | rfl | rfl | rfl | rfl <;> cases b <;> decide
theorem o_ltb {o : Int} (ho : 0 ≤ o ∧ o ≤ 5) (b : Bool) : (if b = true then o else ab_neg o).toNat < 20 := by
  have : o = 0 ∨ o = 1 ∨ o = 2 ∨ o = 3 ∨ o = 4 ∨ o = 5 := by omega
  rcases this with rfl | rfl | rfl | rfl | rfl | rfl <;> cases b <;> decide
theorem o_lt {o : Int} (ho : 0 ≤ o ∧ o ≤ 5) {c : Prop} [Decidable c] : (if c then o else ab_neg o).toNat < 20 := by
  have : o = 0 ∨ o = 1 ∨ o = 2 ∨ o = 3 ∨ o = 4 ∨ o = 5 := by omega
  rcases this with rfl | rfl | rfl | rfl | rfl | rfl <;> split <;> decide
abbrev SxR (mods : List Nat) (q : Smi) (pc : Nat) (s : AS) (fx : List FX) (lg : List LG) (rho : List Int) (h0 : Hp) (cls : List (Option Value)) (cst : List Value) (h : Hp) (l : List (Nat × AS)) : Prop :=
  ∃ (c' : Cfg) (e : Nat × AS) (t : List Int), fl_step q (pc, cls, cst, h, fl_tot) = some (.inl c') ∧ e ∈ l ∧ e.1 = c'.1 ∧ (∀ fa la, sx_new q s e lg.length = some (fa, la) → XM (rho ++ t) h0 (e.2, fa ++ fx, la ++ lg) c'.2.1 c'.2.2.1 c'.2.2.2.1) ∧ TInv c'.2.2.2.1 ∧ c'.2.2.2.2 = fl_tot ∧ Fr mods h c'.2.2.2.1
theorem sx_6 {a : List Int} {nx : Nat} {l : List (Nat × AS)} (hq : ab_step mods (6, a, nx) s = some l) (X : XM rho h0 (s, fx, lg) cls cst h) (hT : TInv h) : SxR mods (6, a, nx) pc s fx lg rho h0 cls cst h l := by
  obtain ⟨c', e, t, s1, s2, s3, s4, s5, s6, s7⟩ := step_all (pc := pc) hq X.1 hT
  have hh := step_heap s1 (by simp)
  have Y := sx_same (t := t) (e := e) X s4 hh
  refine ⟨c', e, t, s1, s2, s3, fun fa la hn => ?_, s5, s6, s7⟩
  unfold sx_new at hn
  rw [if_pos rfl] at hn
  obtain ⟨als, ast, env, ca⟩ := s
  split at hn
  · rename_i o tt x st' ha hst
    simp only at ha hst
    subst ha; subst hst
    split at hn
    · cases hn; exact Y
    · rename_i hz
      cases hn
      refine sx_fact Y ?_
      obtain ⟨v, w, rfl, hv, hw⟩ := X.1.2.2.1
      simp only [ab_step] at hq
      split at hq
      · rename_i bx hb
        split at hq
        · rename_i ho
          obtain ⟨y, hx1, rfl, hy, hr⟩ := bnd_ok X.1.1 hv hb
          have hz1 : ab_z env = true := by
            cases hzz : ab_z env with
            | true => rfl
            | false => exact absurd (Or.inr hzz) hz
          have hz0 := z_rho (s := (als, (x :: st'), env, ca)) X.1.1 hz1
          simp only [fl_step] at s1
          split at s1
          · rename_i b hcmp
            cases s1
            have h1 := cmp_icmp ho hcmp
            have hne : ¬ tt.toNat = nx := fun z => hz (Or.inl z)
            have hx := (xv_int hx1 hv).2
            obtain ⟨y', e1, e2⟩ := hx
            cases e1
            intro f hf
            obtain rfl := List.mem_singleton.mp hf
            refine ⟨xok_ext (xv_int hx1 hv).1, xok_ext ⟨0, hz0⟩, Nat.zero_le _, Or.inl (o_lt ho), ?_⟩
            unfold fok
            have hb2 : (if e.1 = tt.toNat then o else ab_neg o) = (if b = true then o else ab_neg o) := by
              rw [s3]
              cases b
              · simp only [Bool.false_eq_true, if_false]
                rw [if_neg (fun z => hne z.symm)]
              · simp only [if_true]
            simp only
            rw [hb2]
            rw [if_neg (o_ne9 ho b), if_pos (o_ltb ho b)]
            rw [xv_ext (xv_int hx1 hv).1, ← e2, show xv (rho ++ t) (1, 0, 0) = 0 from by rw [xv_ext ⟨0, hz0⟩]; unfold xv; rw [hz0]; rfl]
            rw [Int32.toInt_zero] at h1
            exact h1
          · cases s1
        · cases hq
      · cases hq
  · cases hn; exact Y
theorem sx_7 {a : List Int} {nx : Nat} {l : List (Nat × AS)} (hq : ab_step mods (7, a, nx) s = some l) (X : XM rho h0 (s, fx, lg) cls cst h) (hT : TInv h) : SxR mods (7, a, nx) pc s fx lg rho h0 cls cst h l := by
  obtain ⟨c', e, t, s1, s2, s3, s4, s5, s6, s7⟩ := step_all (pc := pc) hq X.1 hT
  have hh := step_heap s1 (by simp)
  have Y := sx_same (t := t) (e := e) X s4 hh
  refine ⟨c', e, t, s1, s2, s3, fun fa la hn => ?_, s5, s6, s7⟩
  unfold sx_new at hn
  rw [if_neg (by simp), if_pos rfl] at hn
  obtain ⟨als, ast, env, ca⟩ := s
  split at hn
  · rename_i o tt x2 x st' ha hst
    simp only at ha hst
    subst ha; subst hst
    split at hn
    · cases hn; exact Y
    · rename_i hz
      cases hn
      refine sx_fact Y ?_
      obtain ⟨v2, w2, rfl, hv2, v, w, rfl, hv, hw⟩ := X.1.2.2.1
      simp only [ab_step] at hq
      split at hq
      · rename_i bx by' hb hb2
        split at hq
        · rename_i ho
          obtain ⟨y, hx1, rfl, hy, hr⟩ := bnd_ok X.1.1 hv hb
          obtain ⟨y2, hx2, rfl, hy2, hr2⟩ := bnd_ok X.1.1 hv2 hb2
          simp only [fl_step] at s1
          split at s1
          · rename_i b hcmp
            cases s1
            have h1 := cmp_icmp ho hcmp
            obtain ⟨k1, y', e1, e2⟩ := xv_int hx1 hv
            cases e1
            obtain ⟨k2, y2', e3, e4⟩ := xv_int hx2 hv2
            cases e3
            intro f hf
            obtain rfl := List.mem_singleton.mp hf
            refine ⟨xok_ext k1, xok_ext k2, Nat.zero_le _, Or.inl (o_lt ho), ?_⟩
            unfold fok
            have hbb : (if e.1 = tt.toNat then o else ab_neg o) = (if b = true then o else ab_neg o) := by
              rw [s3]
              cases b
              · simp only [Bool.false_eq_true, if_false]
                rw [if_neg (fun z => hz z.symm)]
              · simp only [if_true]
            simp only
            rw [hbb, if_neg (o_ne9 ho b), if_pos (o_ltb ho b), xv_ext k1, xv_ext k2, ← e2, ← e4]
            exact h1
          · cases s1
        · cases hq
      · cases hq
  · cases hn; exact Y
theorem sx_rd {op : Nat} (hop : op = 11 ∨ op = 13) {a : List Int} {nx : Nat} {l : List (Nat × AS)} (hq : ab_step mods (op, a, nx) s = some l) (X : XM rho h0 (s, fx, lg) cls cst h) (hT : TInv h) : SxR mods (op, a, nx) pc s fx lg rho h0 cls cst h l := by
  obtain ⟨c', e, t, s1, s2, s3, s4, s5, s6, s7⟩ := step_all (pc := pc) hq X.1 hT
  have hh := step_heap s1 (by rcases hop with rfl | rfl <;> simp)
  have Y := sx_same (t := t) (e := e) X s4 hh
  refine ⟨c', e, t, s1, s2, s3, fun fa la hn0 => ?_, s5, s6, s7⟩
  have hn : (match s.2.1, e.2.2.1 with
    | i :: v :: _, a :: _ => if a.1 = 1 ∧ i.1 = 1 ∧ v.1 = 2 ∧ 31 ≤ v.2.2 ∧ v.2.2 < 93 then some ([(9, v.2.2.toNat, i, a, lg.length)], []) else none
    | _, _ => none) = some (fa, la) := by rcases hop with rfl | rfl <;> exact hn0
  clear hn0
  obtain ⟨als, ast, env, ca⟩ := s
  obtain ⟨e1, els, est, eenv, eca⟩ := e
  split at hn
  · rename_i i v st' a2 est' hst hest
    simp only at hst hest
    subst hst; subst hest
    split at hn
    · rename_i hc
      cases hn
      refine sx_fact Y ?_
      obtain ⟨vi, w2, rfl, hvi, vv, w, rfl, hvv, hw⟩ := X.1.2.2.1
      obtain ⟨k1, y, rfl, z1⟩ := xv_int hc.2.1 hvi
      obtain ⟨r, -, rfl, hk⟩ := gv_ref hc.2.2.1 hvv
      have hst : c'.2.2.1 = .int (h.1 r y.toNatClampNeg) :: w := by
        rcases hop with rfl | rfl <;> (simp only [fl_step] at s1; split at s1 <;> first | (cases s1; rfl) | (cases s1; done))
      have g3 := s4.2.2.1
      rw [hst] at g3
      obtain ⟨va, wa, ea, hva, -⟩ := g3
      have ea1 : Value.int (h.1 r y.toNatClampNeg) = va := (List.cons.inj ea).1
      subst ea1
      obtain ⟨k2, y2, e2, z2⟩ := xv_int hc.1 hva
      cases e2
      intro f hf
      obtain rfl := List.mem_singleton.mp hf
      refine ⟨xok_ext k1, k2, Nat.le_refl _, Or.inl (show 9 < 20 by decide), ?_⟩
      unfold fok
      simp only [if_true, rd]
      have hx2 : h = xh rho h0 lg := X.2.1
      rw [List.nil_append, Nat.sub_self, List.drop_zero, xh_ext X.2.2.1, ← hx2, xv_ext k1, ← z1, ← z2, ← hk, xc_of (by omega) (by omega)]
      rfl
    · cases hn
  · cases hn
/-- a write more -/
theorem sx_log (X : XM rho h0 (s, fx, lg) cls cst h) {ls : List (Option Value)} {st : List Value} {s' : AS} {g : LG} {r k : Nat} {x : Int32} (hG : Gm (rho ++ t) s' ls st (fl_setI h r k x)) (h1 : xok rho g.2.1) (h2 : xok rho g.2.2) (hr : xc g.1 = r) (hk : (xv rho g.2.1).toNat = k) (hx : xv rho g.2.2 = x.toInt) : XM (rho ++ t) h0 (s', fx, g :: lg) ls st (fl_setI h r k x) := by
  obtain ⟨-, x2, x4, x5⟩ := X
  refine ⟨hG, ?_, ?_, (x5.ext x4).push g⟩
  · show _ = fl_setI (xh (rho ++ t) h0 lg) (xc g.1) (xv (rho ++ t) g.2.1).toNat (Int32.ofInt (xv (rho ++ t) g.2.2))
    rw [xh_ext x4, ← x2, xv_ext h1, xv_ext h2, hr, hk, hx, Int32.ofInt_toInt]
  · intro z hz
    rcases List.mem_cons.mp hz with rfl | hz
    · exact ⟨xok_ext h1, xok_ext h2⟩
    · exact x4.ext z hz
theorem sx_wr {op : Nat} (hop : op = 12 ∨ op = 14) {a : List Int} {nx : Nat} {l : List (Nat × AS)} (hq : ab_step mods (op, a, nx) s = some l) (X : XM rho h0 (s, fx, lg) cls cst h) (hT : TInv h) : SxR mods (op, a, nx) pc s fx lg rho h0 cls cst h l := by
  obtain ⟨c', e, t, s1, s2, s3, s4, s5, s6, s7⟩ := step_all (pc := pc) hq X.1 hT
  refine ⟨c', e, t, s1, s2, s3, fun fa la hn0 => ?_, s5, s6, s7⟩
  have hn : (match s.2.1 with
    | x :: i :: v :: _ => if x.1 = 1 ∧ i.1 = 1 ∧ v.1 = 2 ∧ 31 ≤ v.2.2 ∧ v.2.2 < 93 then some ([], [(v.2.2.toNat, i, x)]) else none
    | _ => none) = some (fa, la) := by rcases hop with rfl | rfl <;> exact hn0
  clear hn0
  obtain ⟨als, ast, env, ca⟩ := s
  split at hn
  · rename_i x i v st' hst
    simp only at hst
    subst hst
    split at hn
    · rename_i hc
      cases hn
      obtain ⟨vx, w3, rfl, hvx, vi, w2, rfl, hvi, vv, w, rfl, hvv, hw⟩ := X.1.2.2.1
      obtain ⟨k0, x0, rfl, z0⟩ := xv_int hc.1 hvx
      obtain ⟨k1, y, rfl, z1⟩ := xv_int hc.2.1 hvi
      obtain ⟨r, -, rfl, hk⟩ := gv_ref hc.2.2.1 hvv
      have hh : c'.2.2.2.1 = fl_setI h r y.toNatClampNeg x0 := by
        rcases hop with rfl | rfl <;> (simp only [fl_step] at s1; split at s1 <;> first | (cases s1; rfl) | (cases s1; done))
      rw [hh] at s4 ⊢
      exact sx_log X s4 k1 k0 (by simp only; rw [← hk, xc_of (by omega) (by omega)]) (by simp only; rw [← z1]; rfl) z0.symm
    · cases hn
  · cases hn
theorem sx_9 {a : List Int} {nx : Nat} {l : List (Nat × AS)} (hq : ab_step mods (9, a, nx) s = some l) (X : XM rho h0 (s, fx, lg) cls cst h) (hT : TInv h) : SxR mods (9, a, nx) pc s fx lg rho h0 cls cst h l := by
  obtain ⟨c', e, t, s1, s2, s3, s4, s5, s6, s7⟩ := step_all (pc := pc) hq X.1 hT
  have hh := step_heap s1 (by simp)
  have Y := sx_same (t := t) (e := e) X s4 hh
  refine ⟨c', e, t, s1, s2, s3, fun fa la hn => ?_, s5, s6, s7⟩
  unfold sx_new at hn
  rw [if_neg (by simp), if_neg (by simp), if_pos rfl] at hn
  obtain ⟨als, ast, env, ca⟩ := s
  obtain ⟨e1, els, est, eenv, eca⟩ := e
  split at hn
  · rename_i ci k v st' a2 est' ha hst hest
    simp only at ha hst hest
    subst ha; subst hst; subst hest
    split at hn
    · rename_i hc
      cases hn
      refine sx_fact Y ?_
      obtain ⟨vv, w, rfl, hvv, hw⟩ := X.1.2.2.1
      obtain ⟨r, -, rfl, hk⟩ := gv_ref hc.2.1 hvv
      have hz0 := z_rho (s := (als, (v :: st'), env, ca)) X.1.1 hc.2.2.2.2
      obtain ⟨va, wa, ea, hva, -⟩ := s4.2.2.1
      obtain ⟨k2, y2, e2, z2⟩ := xv_int hc.1 hva
      subst e2
      have hst : y2 = h.1 r k.toNat := by
        simp only [fl_step] at s1
        split at s1
        · split at s1
          · cases s1
            exact (Value.int.inj (List.cons.inj ea).1).symm
          · cases s1
            exact (Value.int.inj (List.cons.inj ea).1).symm
          · cases s1
            have := (List.cons.inj ea).1
            cases hr : h.2 r k.toNat <;> rw [hr] at this <;> cases this
          · cases s1
        · cases s1
      intro f hf
      obtain rfl := List.mem_singleton.mp hf
      refine ⟨⟨0, get_ext hz0⟩, k2, Nat.le_refl _, Or.inl (show 9 < 20 by decide), ?_⟩
      unfold fok
      simp only [if_true, rd]
      have hx2 : h = xh rho h0 lg := X.2.1
      have hk1 : xv (rho ++ t) (1, 0, k) = k := by
        rw [xv_ext ⟨0, hz0⟩]
        unfold xv
        rw [hz0]
        simp
      have hr31 : xc 31 = r := by
        have h31 : ab_kd r = 31 := by rw [hk, hc.2.2.1]; rfl
        have := xc_of (r := r) (by omega) (by omega)
        rw [h31] at this
        exact this
      rw [List.nil_append, Nat.sub_self, List.drop_zero, xh_ext X.2.2.1, ← hx2, hk1, hr31, ← z2, hst]
    · cases hn; exact Y
  · cases hn; exact Y
theorem sx_10 {a : List Int} {nx : Nat} {l : List (Nat × AS)} (hq : ab_step mods (10, a, nx) s = some l) (X : XM rho h0 (s, fx, lg) cls cst h) (hT : TInv h) : SxR mods (10, a, nx) pc s fx lg rho h0 cls cst h l := by
  obtain ⟨c', e, t, s1, s2, s3, s4, s5, s6, s7⟩ := step_all (pc := pc) hq X.1 hT
  refine ⟨c', e, t, s1, s2, s3, fun fa la hn => ?_, s5, s6, s7⟩
  unfold sx_new at hn
  rw [if_neg (by simp), if_neg (by simp), if_neg (by simp), if_neg (by simp), if_pos rfl] at hn
  obtain ⟨als, ast, env, ca⟩ := s
  split at hn
  · rename_i ci k x v st' ha hst
    simp only at ha hst
    subst ha; subst hst
    split at hn
    · rename_i hc
      cases hn
      obtain ⟨vx, w2, rfl, hvx, vv, w, rfl, hvv, hw⟩ := X.1.2.2.1
      obtain ⟨k0, x0, rfl, z0⟩ := xv_int hc.1 hvx
      obtain ⟨r, -, rfl, hk⟩ := gv_ref hc.2.1 hvv
      have hz0 := z_rho (s := (als, (x :: v :: st'), env, ca)) X.1.1 hc.2.2.2.2
      have hh : c'.2.2.2.1 = fl_setI h r k.toNat x0 := by
        simp only [fl_step] at s1
        split at s1
        · split at s1
          · rename_i hx; cases hx; cases s1; rfl
          · rename_i hx; cases hx
            split at s1
            · cases s1; rfl
            · cases s1
          · rename_i hx; cases hx
          · rename_i hx; cases hx
          · cases s1
        · cases s1
      rw [hh] at s4 ⊢
      have hr31 : xc 31 = r := by
        have h31 : ab_kd r = 31 := by rw [hk, hc.2.2.1]; rfl
        have := xc_of (r := r) (by omega) (by omega)
        rw [h31] at this
        exact this
      refine sx_log X s4 ⟨0, hz0⟩ k0 hr31 ?_ z0.symm
      show (xv rho (1, 0, k)).toNat = k.toNat
      unfold xv
      rw [hz0]
      simp
    · cases hn
  · cases hn
theorem bin_iop {o : Int} {x y z : Int32} {bx by' : Int × Int} (hx : bx.1 ≤ x.toInt ∧ x.toInt ≤ bx.2) (hy : by'.1 ≤ y.toInt ∧ y.toInt ≤ by'.2) (h : sx_exact o bx by' = true) (hz : fl_bin o x y = some z) : iop (20 + o.toNat) x.toInt y.toInt z.toInt := by
  have hne : ∀ (k : y.toInt ≠ 0), ¬ y = 0 := by
    intro k z
    rw [z] at k
    exact k (by decide)
  have h4 := i_rng x
  unfold sx_exact at h
  split at h
  · have := lim_of h
    cases hz
    show (x + y).toInt = x.toInt + y.toInt
    rw [Int32.toInt_add, i_bm (by omega) (by omega)]
  · have := lim_of h
    cases hz
    show (x - y).toInt = x.toInt - y.toInt
    rw [Int32.toInt_sub, i_bm (by omega) (by omega)]
  · simp only [Bool.and_eq_true, decide_eq_true_eq] at h
    cases hz
    show (x * y).toInt = x.toInt * y.toInt
    have h1 : 0 ≤ x.toInt * y.toInt := Int.mul_nonneg (by omega) (by omega)
    have h2 : x.toInt * y.toInt ≤ bx.2 * by'.2 := Int.mul_le_mul hx.2 hy.2 (by omega) (by omega)
    rw [Int32.toInt_mul, i_bm (by omega) (by omega)]
  · simp only [Bool.and_eq_true, decide_eq_true_eq] at h
    have hz' : x / y = z := by
      simp only [fl_bin] at hz
      rw [if_neg (hne (by omega))] at hz
      exact Option.some.inj hz
    subst hz'
    show (x / y).toInt = x.toInt / y.toInt
    have h1 : x.toInt.tdiv y.toInt = x.toInt / y.toInt := Int.tdiv_eq_ediv_of_nonneg (by omega)
    have h2 : x.toInt / y.toInt ≤ x.toInt := Int.ediv_le_self _ (by omega)
    have h3 : 0 ≤ x.toInt / y.toInt := Int.ediv_nonneg (by omega) (by omega)
    rw [Int32.toInt_div, h1, i_bm (by omega) (by omega)]
  · simp only [Bool.and_eq_true, decide_eq_true_eq] at h
    have hz' : x - x / y * y = z := by
      simp only [fl_bin] at hz
      rw [if_neg (hne (by omega))] at hz
      exact Option.some.inj hz
    subst hz'
    show (x - x / y * y).toInt = x.toInt % y.toInt
    have h1 : x.toInt.tdiv y.toInt = x.toInt / y.toInt := Int.tdiv_eq_ediv_of_nonneg (by omega)
    have h2 : x.toInt / y.toInt ≤ x.toInt := Int.ediv_le_self _ (by omega)
    have h3 : 0 ≤ x.toInt / y.toInt := Int.ediv_nonneg (by omega) (by omega)
    have h5 := Int.mul_ediv_add_emod x.toInt y.toInt
    have h6 := Int.emod_nonneg x.toInt (show y.toInt ≠ 0 by omega)
    have h8 : 0 ≤ x.toInt / y.toInt * y.toInt := Int.mul_nonneg h3 (by omega)
    have h9 : y.toInt * (x.toInt / y.toInt) = x.toInt / y.toInt * y.toInt := Int.mul_comm _ _
    have e1 : (x / y).toInt = x.toInt / y.toInt := by rw [Int32.toInt_div, h1, i_bm (by omega) (by omega)]
    have e2 : (x / y * y).toInt = x.toInt / y.toInt * y.toInt := by rw [Int32.toInt_mul, e1, i_bm (by omega) (by omega)]
    rw [Int32.toInt_sub, e2, i_bm (by omega) (by omega)]
    omega
  · cases h
theorem sx_5 {a : List Int} {nx : Nat} {l : List (Nat × AS)} (hq : ab_step mods (5, a, nx) s = some l) (X : XM rho h0 (s, fx, lg) cls cst h) (hT : TInv h) : SxR mods (5, a, nx) pc s fx lg rho h0 cls cst h l := by
  obtain ⟨c', e, t, s1, s2, s3, s4, s5, s6, s7⟩ := step_all (pc := pc) hq X.1 hT
  have hh := step_heap s1 (by simp)
  have Y := sx_same (t := t) (e := e) X s4 hh
  refine ⟨c', e, t, s1, s2, s3, fun fa la hn => ?_, s5, s6, s7⟩
  unfold sx_new at hn
  rw [if_neg (by simp), if_neg (by simp), if_neg (by simp), if_neg (by simp), if_neg (by simp), if_neg (by simp), if_pos rfl] at hn
  obtain ⟨als, ast, env, ca⟩ := s
  obtain ⟨e1, els, est, eenv, eca⟩ := e
  split at hn
  · rename_i o y x st' a2 est' ha hst hest
    simp only at ha hst hest
    subst ha; subst hst; subst hest
    split at hn
    · rename_i bx by' hb1 hb2
      split at hn
      · rename_i hc
        cases hn
        refine sx_fact Y ?_
        obtain ⟨vy, w1, rfl, hvy, vx, w, rfl, hvx, hw⟩ := X.1.2.2.1
        obtain ⟨x0, hx1, rfl, hx, -⟩ := bnd_ok X.1.1 hvx hb1
        obtain ⟨y0, hy1, rfl, hy, -⟩ := bnd_ok X.1.1 hvy hb2
        obtain ⟨k1, x1, ex, zx⟩ := xv_int hx1 hvx
        cases ex
        obtain ⟨k2, y1, ey, zy⟩ := xv_int hy1 hvy
        cases ey
        obtain ⟨va, wa, ea, hva, -⟩ := s4.2.2.1
        obtain ⟨k3, z0, ez, zz⟩ := xv_int hc.1 hva
        subst ez
        have hz : fl_bin o x0 y0 = some z0 := by
          simp only [fl_step] at s1
          split at s1
          · rename_i z hz
            cases s1
            rw [hz]
            exact congrArg some (Value.int.inj (List.cons.inj ea).1)
          · cases s1
        have key := bin_iop hx hy hc.2.2.2 hz
        intro f hf
        obtain rfl := List.mem_singleton.mp hf
        refine ⟨xok_ext k1, xok_ext k2, Nat.zero_le _, Or.inr k3, ?_⟩
        unfold fok
        simp only
        rw [if_neg (by omega), if_neg (by omega), xv_ext k1, xv_ext k2, ← zx, ← zy]
        have : nm (rho ++ t) a2.2.1 = z0.toInt := by
          rw [zz]
          unfold nm xv
          rw [hc.2.2.1]
          omega
        rw [this]
        exact key
      · cases hn; exact Y
    · cases hn; exact Y
  · cases hn; exact Y
theorem sx_40 {a : List Int} {nx : Nat} {l : List (Nat × AS)} (hq : ab_step mods (40, a, nx) s = some l) (X : XM rho h0 (s, fx, lg) cls cst h) (hT : TInv h) : SxR mods (40, a, nx) pc s fx lg rho h0 cls cst h l := by
  obtain ⟨c', e, t, s1, s2, s3, s4, s5, s6, s7⟩ := step_all (pc := pc) hq X.1 hT
  have hh := step_heap s1 (by simp)
  have Y := sx_same (t := t) (e := e) X s4 hh
  refine ⟨c', e, t, s1, s2, s3, fun fa la hn => ?_, s5, s6, s7⟩
  unfold sx_new at hn
  rw [if_neg (by simp), if_neg (by simp), if_neg (by simp), if_neg (by simp), if_neg (by simp), if_neg (by simp), if_neg (by simp), if_pos rfl] at hn
  obtain ⟨als, ast, env, ca⟩ := s
  split at hn
  · rename_i lo df ts x st' ha hst
    simp only at ha hst
    subst ha; subst hst
    split at hn
    · rename_i hc
      cases hn
      refine sx_fact Y ?_
      have hz0 := z_rho (s := (als, (x :: st'), env, ca)) X.1.1 hc.2.1
      obtain ⟨v, w, rfl, hv, hw⟩ := X.1.2.2.1
      obtain ⟨k1, y, rfl, z1⟩ := xv_int hc.2.2 hv
      intro f hf
      obtain ⟨p, hp, hpf⟩ := List.mem_filterMap.mp hf
      split at hpf
      · cases hpf
      · rename_i hne
        cases hpf
        refine ⟨xok_ext k1, xok_ext ⟨0, hz0⟩, Nat.zero_le _, Or.inl (show 1 < 20 by decide), ?_⟩
        unfold fok
        simp only
        rw [if_neg (by decide), if_pos (by decide), xv_ext k1, ← z1]
        intro heq
        apply hne
        have h2 : xv (rho ++ t) (1, 0, lo + (p.2 : Int)) = lo + (p.2 : Int) := by
          rw [xv_ext ⟨0, hz0⟩]
          unfold xv
          rw [hz0]
          simp
        rw [h2] at heq
        have hp2 : ts[p.2]? = some p.1 := List.mem_zipIdx_iff_getElem?.mp hp
        simp only [fl_step] at s1
        rw [if_neg (by omega), show (y.toInt - lo).toNat = p.2 by omega, hp2] at s1
        simp only at s1
        cases s1
        rw [← hc.1]
        exact s3.symm
    · cases hn; exact Y
  · cases hn; exact Y
theorem sx_else {a : List Int} {op nx : Nat} (h1 : op ≠ 6 ∧ op ≠ 7 ∧ op ≠ 9 ∧ op ≠ 11 ∧ op ≠ 13 ∧ op ≠ 10 ∧ op ≠ 12 ∧ op ≠ 14 ∧ op ≠ 5 ∧ op ≠ 40) {l : List (Nat × AS)} (hq : ab_step mods (op, a, nx) s = some l) (X : XM rho h0 (s, fx, lg) cls cst h) (hT : TInv h) : SxR mods (op, a, nx) pc s fx lg rho h0 cls cst h l := by
  obtain ⟨c', e, t, s1, s2, s3, s4, s5, s6, s7⟩ := step_all (pc := pc) hq X.1 hT
  refine ⟨c', e, t, s1, s2, s3, fun fa la hn => ?_, s5, s6, s7⟩
  obtain ⟨n1, n2, n3, n4, n5, n6, n7, n8, n9, n10⟩ := h1
  unfold sx_new at hn
  rw [if_neg n1, if_neg n2, if_neg n3, if_neg (by rintro (z | z) <;> contradiction), if_neg n6, if_neg (by rintro (z | z) <;> contradiction), if_neg n9, if_neg n10] at hn
  split at hn
  · cases hn
  · rename_i hne
    cases hn
    have hne' : op ≠ 16 ∧ op ≠ 29 ∧ op ≠ 30 ∧ op ≠ 31 ∧ op ≠ 41 := ⟨fun z => hne (Or.inl z), fun z => hne (Or.inr (Or.inl z)), fun z => hne (Or.inr (Or.inr (Or.inl z))), fun z => hne (Or.inr (Or.inr (Or.inr (Or.inl z)))), fun z => hne (Or.inr (Or.inr (Or.inr (Or.inr z))))⟩
    have hh := step_heap s1 ⟨n6, n7, n8, hne'.1, hne'.2.1, hne'.2.2.1, hne'.2.2.2.1, hne'.2.2.2.2⟩
    exact sx_same (t := t) (e := e) X s4 hh
theorem sx_ok {l : List (Nat × AS)} (hq : ab_step mods q s = some l) (X : XM rho h0 (s, fx, lg) cls cst h) (hT : TInv h) : SxR mods q pc s fx lg rho h0 cls cst h l := by
  obtain ⟨op, a, nx⟩ := q
  by_cases h6 : op = 6
  · subst h6; exact sx_6 hq X hT
  by_cases h7 : op = 7
  · subst h7; exact sx_7 hq X hT
  by_cases h9 : op = 9
  · subst h9; exact sx_9 hq X hT
  by_cases h11 : op = 11 ∨ op = 13
  · exact sx_rd h11 hq X hT
  by_cases h10 : op = 10
  · subst h10; exact sx_10 hq X hT
  by_cases h12 : op = 12 ∨ op = 14
  · exact sx_wr h12 hq X hT
  by_cases h5 : op = 5
  · subst h5; exact sx_5 hq X hT
  by_cases h40 : op = 40
  · subst h40; exact sx_40 hq X hT
  exact sx_else ⟨h6, h7, h9, fun z => h11 (Or.inl z), fun z => h11 (Or.inr z), h10, fun z => h12 (Or.inl z), fun z => h12 (Or.inr z), h5, h40⟩ hq X hT
end SX
