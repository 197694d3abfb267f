
set_option maxRecDepth 20000
/-! THE REFERENCE'S METHODS, AS THE LAW CALLS THEM -/
theorem ivc (a : Int32) : Value.int a = iv a.toInt := by unfold iv; rw [Int32.ofInt_toInt]
theorem rv223 : rv 31 = Value.ref 223 := congrArg Value.ref (show xc 31 = 223 by decide +kernel)
def PVF (m nL k : Nat) : Prop := ∀ h : Hp, TInv h → RG h → ∀ vs : List Int32, vs.length = k → PubF h m nL (rv 31 :: vs.map Value.int)
theorem pv_142 : PV 142 4 3 := fun h hT G vs hv => by
  match vs, hv with
  | [a0, a1, a2], _ =>
    show PubOut h 142 4 [rv 31, Value.int a0, Value.int a1, Value.int a2]
    rw [ivc a0, ivc a1, ivc a2]
    exact c_tray hT G (i_rng a0) (i_rng a1) (i_rng a2)
theorem pv_144 : PV 144 1 0 := fun h hT G vs hv => by
  match vs, hv with
  | [], _ =>
    show PubOut h 144 1 [rv 31]
    exact c_clerk hT G 
theorem pv_145 : PV 145 7 5 := fun h hT G vs hv => by
  match vs, hv with
  | [a0, a1, a2, a3, a4], _ =>
    show PubOut h 145 7 [rv 31, Value.int a0, Value.int a1, Value.int a2, Value.int a3, Value.int a4]
    rw [ivc a0, ivc a1, ivc a2, ivc a3, ivc a4]
    exact c_act hT G (i_rng a0) (i_rng a1) (i_rng a2) (i_rng a3) (i_rng a4)
theorem pv_149 : PV 149 3 2 := fun h hT G vs hv => by
  match vs, hv with
  | [a0, a1], _ =>
    show PubOut h 149 3 [rv 31, Value.int a0, Value.int a1]
    rw [ivc a0, ivc a1]
    obtain ⟨h', u1, u2, u3⟩ := c_baton hT G (i_rng a0) (i_rng a1)
    exact ⟨_, h', u1, u2, u3⟩
theorem pv_150 : PV 150 4 3 := fun h hT G vs hv => by
  match vs, hv with
  | [a0, a1, a2], _ =>
    show PubOut h 150 4 [rv 31, Value.int a0, Value.int a1, Value.int a2]
    rw [ivc a0, ivc a1, ivc a2]
    exact c_patience hT G (i_rng a0) (i_rng a1) (i_rng a2)
theorem pv_152 : PV 152 4 3 := fun h hT G vs hv => by
  match vs, hv with
  | [a0, a1, a2], _ =>
    show PubOut h 152 4 [rv 31, Value.int a0, Value.int a1, Value.int a2]
    rw [ivc a0, ivc a1, ivc a2]
    exact c_throwing hT G (i_rng a0) (i_rng a1) (i_rng a2)
theorem pv_153 : PV 153 3 0 := fun h hT G vs hv => by
  match vs, hv with
  | [], _ =>
    show PubOut h 153 3 [rv 31]
    obtain ⟨z, h', r1, r2, r3, r4, r5⟩ := c_run hT G.1
    exact ⟨_, h', fun d hd => r1 d (by omega), r2, r3.1, fun _ => r3⟩
theorem pf_153 : PVF 153 3 0 := fun h hT G vs hv => by
  match vs, hv with
  | [], _ =>
    show PubF h 153 3 [rv 31]
    exact fp_run hT G 
theorem pv_179 : PV 179 3 2 := fun h hT G vs hv => by
  match vs, hv with
  | [a0, a1], _ =>
    show PubOut h 179 3 [rv 31, Value.int a0, Value.int a1]
    rw [ivc a0, ivc a1]
    exact c_answer hT G (i_rng a0) (i_rng a1)
theorem pv_180 : PV 180 3 2 := fun h hT G vs hv => by
  match vs, hv with
  | [a0, a1], _ =>
    show PubOut h 180 3 [rv 31, Value.int a0, Value.int a1]
    rw [ivc a0, ivc a1]
    exact c_outcome hT G (i_rng a0) (i_rng a1)
theorem pv_181 : PV 181 3 2 := fun h hT G vs hv => by
  match vs, hv with
  | [a0, a1], _ =>
    show PubOut h 181 3 [rv 31, Value.int a0, Value.int a1]
    rw [ivc a0, ivc a1]
    exact c_waited hT G (i_rng a0) (i_rng a1)
theorem pv_182 : PV 182 3 2 := fun h hT G vs hv => by
  match vs, hv with
  | [a0, a1], _ =>
    show PubOut h 182 3 [rv 31, Value.int a0, Value.int a1]
    rw [ivc a0, ivc a1]
    exact c_mark hT G (i_rng a0) (i_rng a1)
theorem pv_183 : PV 183 4 1 := fun h hT G vs hv => by
  match vs, hv with
  | [a0], _ =>
    show PubOut h 183 4 [rv 31, Value.int a0]
    rw [ivc a0]
    exact p_count hT G (i_rng a0)
theorem pv_184 : PV 184 2 1 := fun h hT G vs hv => by
  match vs, hv with
  | [a0], _ =>
    show PubOut h 184 2 [rv 31, Value.int a0]
    rw [ivc a0]
    exact p_size hT G (i_rng a0)
theorem pv_186 : PV 186 4 3 := fun h hT G vs hv => by
  match vs, hv with
  | [a0, a1, a2], _ =>
    show PubOut h 186 4 [rv 31, Value.int a0, Value.int a1, Value.int a2]
    rw [ivc a0, ivc a1, ivc a2]
    exact c_card hT G (i_rng a0) (i_rng a1) (i_rng a2)
theorem pv_190 : PV 190 1 0 := fun h hT G vs hv => by
  match vs, hv with
  | [], _ =>
    show PubOut h 190 1 [rv 31]
    exact c_asked hT G 
theorem pv_191 : PV 191 5 2 := fun h hT G vs hv => by
  match vs, hv with
  | [a0, a1], _ =>
    show PubOut h 191 5 [rv 31, Value.int a0, Value.int a1]
    rw [ivc a0, ivc a1]
    exact c_about hT G (i_rng a0) (i_rng a1)
theorem pv_192 : PV 192 2 1 := fun h hT G vs hv => by
  match vs, hv with
  | [a0], _ =>
    show PubOut h 192 2 [rv 31, Value.int a0]
    rw [ivc a0]
    exact c_fits hT G (i_rng a0)
theorem pv_203 : PV 203 3 2 := fun h hT G vs hv => by
  match vs, hv with
  | [a0, a1], _ =>
    show PubOut h 203 3 [rv 31, Value.int a0, Value.int a1]
    rw [ivc a0, ivc a1]
    exact c_order hT G (i_rng a0) (i_rng a1)
theorem pv_204 : PV 204 1 0 := fun h hT G vs hv => by
  match vs, hv with
  | [], _ =>
    show PubOut h 204 1 [rv 31]
    exact c_tries hT G 
theorem pv_205 : PV 205 2 0 := fun h hT G vs hv => by
  match vs, hv with
  | [], _ =>
    show PubOut h 205 2 [rv 31]
    exact c_first hT G 
theorem pv_206 : PV 206 7 1 := fun h hT G vs hv => by
  match vs, hv with
  | [a0], _ =>
    show PubOut h 206 7 [rv 31, Value.int a0]
    rw [ivc a0]
    exact c_explore hT G (i_rng a0)
theorem pf_206 : PVF 206 7 1 := fun h hT G vs hv => by
  match vs, hv with
  | [a0], _ =>
    show PubF h 206 7 [rv 31, Value.int a0]
    rw [ivc a0]
    exact fc_explore hT G (i_rng a0)
theorem pv_211 : PV 211 2 1 := fun h hT G vs hv => by
  match vs, hv with
  | [a0], _ =>
    show PubOut h 211 2 [rv 31, Value.int a0]
    rw [ivc a0]
    exact c_explored hT G (i_rng a0)
theorem pv_212 : PV 212 6 0 := fun h hT G vs hv => by
  match vs, hv with
  | [], _ =>
    show PubOut h 212 6 [rv 31]
    exact c_digest hT G 
theorem pv_213 : PV 213 3 0 := fun h hT G vs hv => by
  match vs, hv with
  | [], _ =>
    show PubOut h 213 3 [rv 31]
    exact c_clear hT G 
theorem pg_179 : PVG 179 3 2 := fun h hT G vs hv => by
  match vs, hv with
  | [a0, a1], _ =>
    show PubG h 179 3 [rv 31, Value.int a0, Value.int a1]
    rw [ivc a0, ivc a1]
    exact gc_answer hT G (i_rng a0) (i_rng a1)
theorem pg_180 : PVG 180 3 2 := fun h hT G vs hv => by
  match vs, hv with
  | [a0, a1], _ =>
    show PubG h 180 3 [rv 31, Value.int a0, Value.int a1]
    rw [ivc a0, ivc a1]
    exact gc_outcome hT G (i_rng a0) (i_rng a1)
theorem pg_181 : PVG 181 3 2 := fun h hT G vs hv => by
  match vs, hv with
  | [a0, a1], _ =>
    show PubG h 181 3 [rv 31, Value.int a0, Value.int a1]
    rw [ivc a0, ivc a1]
    exact gc_waited hT G (i_rng a0) (i_rng a1)
theorem pg_182 : PVG 182 3 2 := fun h hT G vs hv => by
  match vs, hv with
  | [a0, a1], _ =>
    show PubG h 182 3 [rv 31, Value.int a0, Value.int a1]
    rw [ivc a0, ivc a1]
    exact gc_mark hT G (i_rng a0) (i_rng a1)
theorem pg_183 : PVG 183 4 1 := fun h hT G vs hv => by
  match vs, hv with
  | [a0], _ =>
    show PubG h 183 4 [rv 31, Value.int a0]
    rw [ivc a0]
    exact gp_count hT G (i_rng a0)
theorem pg_184 : PVG 184 2 1 := fun h hT G vs hv => by
  match vs, hv with
  | [a0], _ =>
    show PubG h 184 2 [rv 31, Value.int a0]
    rw [ivc a0]
    exact gp_size hT G (i_rng a0)
theorem pg_186 : PVG 186 4 3 := fun h hT G vs hv => by
  match vs, hv with
  | [a0, a1, a2], _ =>
    show PubG h 186 4 [rv 31, Value.int a0, Value.int a1, Value.int a2]
    rw [ivc a0, ivc a1, ivc a2]
    exact gc_card hT G (i_rng a0) (i_rng a1) (i_rng a2)
theorem pg_190 : PVG 190 1 0 := fun h hT G vs hv => by
  match vs, hv with
  | [], _ =>
    show PubG h 190 1 [rv 31]
    exact gc_asked hT G 
theorem pg_191 : PVG 191 5 2 := fun h hT G vs hv => by
  match vs, hv with
  | [a0, a1], _ =>
    show PubG h 191 5 [rv 31, Value.int a0, Value.int a1]
    rw [ivc a0, ivc a1]
    exact gc_about hT G (i_rng a0) (i_rng a1)
theorem pg_192 : PVG 192 2 1 := fun h hT G vs hv => by
  match vs, hv with
  | [a0], _ =>
    show PubG h 192 2 [rv 31, Value.int a0]
    rw [ivc a0]
    exact gc_fits hT G (i_rng a0)
theorem pg_203 : PVG 203 3 2 := fun h hT G vs hv => by
  match vs, hv with
  | [a0, a1], _ =>
    show PubG h 203 3 [rv 31, Value.int a0, Value.int a1]
    rw [ivc a0, ivc a1]
    exact gc_order hT G (i_rng a0) (i_rng a1)
theorem pg_204 : PVG 204 1 0 := fun h hT G vs hv => by
  match vs, hv with
  | [], _ =>
    show PubG h 204 1 [rv 31]
    exact gc_tries hT G 
theorem pg_205 : PVG 205 2 0 := fun h hT G vs hv => by
  match vs, hv with
  | [], _ =>
    show PubG h 205 2 [rv 31]
    exact gc_first hT G 
theorem pg_211 : PVG 211 2 1 := fun h hT G vs hv => by
  match vs, hv with
  | [a0], _ =>
    show PubG h 211 2 [rv 31, Value.int a0]
    rw [ivc a0]
    exact gc_explored hT G (i_rng a0)
theorem pg_212 : PVG 212 6 0 := fun h hT G vs hv => by
  match vs, hv with
  | [], _ =>
    show PubG h 212 6 [rv 31]
    exact gc_digest hT G 
/-! BOTH CALLS OF A CASE -/
def ctModsL (j : Nat) : Bool := match ab_cts[j]? with
  | some c => xlMods c.2.2.2.2.1
  | none => false
def ctModsO (j : Nat) : Bool := match ab_cts[j]? with
  | some c => xoMods c.2.2.2.2.1
  | none => false
def ct28 (j : Nat) : Bool := match ab_cts[j]? with
  | some c => !(c.2.2.2.2.1.contains 28)
  | none => false
theorem ct_get {j : Nat} {c : CT} (hc : ab_cts[j]? = some c) (q : (ctModsL j && ct28 j && ctModsO j) = true) : xlMods c.2.2.2.2.1 = true ∧ 28 ∉ c.2.2.2.2.1 ∧ xoMods c.2.2.2.2.1 = true := by
  unfold ctModsL ct28 ctModsO at q
  rw [hc] at q
  simp only [Bool.and_eq_true, Bool.not_eq_true'] at q
  exact ⟨q.1.1, fun z => by rw [List.contains_iff_mem.mpr z] at q; exact absurd q.1.2 (by decide), q.2⟩
/-- the class's call keeps what is kept -/
theorem LJ.x {h h' : Hp} {d m : Nat} {ls : List (Option Value)} {v : Option Value} {S mods : List Nat} (U : LJ h) (hT : TInv h) (hT' : TInv h') (e : Ev d m (0, ls, [], h, fl_tot) (v, h', fl_tot)) (hm : S.contains m = true) (c : (xlChk S && xoChk S) = true) (F : Fr mods h h') (hmod : xlMods mods = true ∧ 28 ∉ mods ∧ xoMods mods = true) (big : ∀ r : Nat, 223 ≤ r → r < 285 → h'.1 r = h.1 r) : LJ h' := by
  rw [Bool.and_eq_true] at c
  exact ⟨LI.x U.1 hT' e hm c.1 F hmod.1 big (fun q _ => by rw [(F 222 (by rw [show ab_kd 222 = 28 from by decide +kernel]; exact hmod.2.1)).1]), RO.x hT U.2 e hm c.2 F hmod.2.2 big⟩
/-- the reference's call too -/
theorem LJ.m {h h' : Hp} (U : LJ h) (hT : TInv h) (hT' : TInv h') (F : Fq oKs oFs h h') (R : Rf h h') : LJ h' := ⟨U.1.m hT' (F.wide rfl rfl) R, U.2.m hT F R⟩
theorem lc_twoJ {L : Nat} {xs : Nat → Int32} {h : Hp} (I : LwI L xs h) (U : LJ h) {i : Int32} (B : LwB L i) {j k mx mm nL pc0 pc1 nx1 q1 pc2 nx2 q2 : Nat} {lg : Bool} {zz : Nat} (Sx : List Nat) (P : PV mm nL k) (PG : PVG mm nL k) (w1 : lc_walk 60 pc0 [] = some (pc1, lwA k (0 : Nat))) (a1 : fl_code 214 pc1 = some (18, [(mx : Int), (k : Int)], nx1)) (hc : ctP j k mx lg = true) (hk1 : lwK mx k 0 = true) (p1 : fl_code 214 nx1 = some (popO lg, [], q1))
    (w2 : lc_walk 60 q1 [] = some (pc2, lwA k (xc 31 : Nat))) (a2 : fl_code 214 pc2 = some (18, [(mm : Int), (k : Int)], nx2)) (hr : rt_all mm (if lg then 23 else 22) = true) (hy : ((sm_ms[mm]?).map fun y => y.2.2.1) = some nL) (hl : k + 1 ≤ nL) (hk2 : lwK mm k (xc 31) = true) (p2 : fl_code 214 nx2 = some (popO lg, [], q2)) (a3 : fl_code 214 q2 = some (8, [816], zz))
    (f0 : Sx.contains mx = true) (f1 : (xlChk Sx && xoChk Sx) = true) (f2 : (ctModsL j && ct28 j && ctModsO j) = true) :
    ∃ h', LwI L xs h' ∧ LJ h' ∧ ∀ d r, 20 ≤ d → Ev d 214 (816, lwL i, [], h', fl_tot) r → Ev d 214 (pc0, lwL i, [], h, fl_tot) r := by
  obtain ⟨w, h1, X, ⟨cc0, hcc, F1⟩, fr1, I1, hw, K1⟩ := lc_xf I i hc a1 hk1
  obtain ⟨v, h2, ⟨d2, y2, hy2, e2⟩, fr2, I2, hv, K2⟩ := lc_me I1 i P hr hy hl a2 hk2
  obtain ⟨d1, y1, _, e1⟩ := X
  have U1 : LJ h1 := U.x I.1 I1.1 e1 f0 f1 F1 (ct_get hcc f2) (fun r z1 z2 => fr1 r (kdb z1 z2))
  obtain ⟨v', h2', u1, u2⟩ := PG h1 I1.1 I1.2.1 (lwV k i xs) (by unfold lwV; simp)
  have hn : y2.2.2.1 = nL := by
    rw [hy2] at hy
    exact Option.some.inj hy
  rw [hn] at e2
  have e9 := ev_det e2 (u1 14 (Nat.le_refl _))
  have e8 : h2 = h2' := congrArg (fun r => r.2.1) e9
  subst e8
  refine ⟨h2, I2, U1.m I1.1 I2.1 u2 fr2, fun d r hd e => ?_⟩
  have g3 : Ev d 214 (q2, lwL i, [], h2, fl_tot) r := Ev.step (c' := (816, lwL i, [], h2, fl_tot)) a3 rfl e
  have g2 := lc_walk_ok I1 B 60 q1 [] pc2 _ [] w2 d r (K2 d r [] hd (by decide) (lc_pop hv p2 g3))
  exact lc_walk_ok I B 60 pc0 [] pc1 _ [] w1 d r (K1 d r [] hd (by decide) (lc_pop hw p1 g2))
theorem lcs_0 {L : Nat} {xs : Nat → Int32} {h : Hp} (I : LwI L xs h) (U : LJ h) {i : Int32} (B : LwB L i) : ∃ h', LwI L xs h' ∧ LJ h' ∧ ∀ d r, 20 ≤ d → Ev d 214 (816, lwL i, [], h', fl_tot) r → Ev d 214 (144, lwL i, [], h, fl_tot) r := by
  obtain ⟨w, h1, X, fr1, I1, hw, K1⟩ := lc_xe (lg := false) (pc := 160) (nx := 163) (m := 11) (k := 3) (j := 3) I i (by decide +kernel) (by decide +kernel) (by decide +kernel)
  obtain ⟨v, h2, M, fr2, I2, hv, K2⟩ := lc_me (lg := false) (pc := 180) (nx := 183) (m := 142) (k := 3) (nL := 4) I1 i pv_142 (by decide +kernel) (by decide +kernel) (by decide) (by decide +kernel) (by decide +kernel)
  obtain ⟨d1, y1, hy1, X⟩ := X
  obtain ⟨d2, y2, hy2, M⟩ := M
  have n1 : y1.2.2.1 = 4 := by
    have z : ((sm_ms[11]?).map fun y => y.2.2.1) = some 4 := by decide +kernel
    rw [hy1] at z
    exact Option.some.inj z
  have n2 : y2.2.2.1 = 4 := by
    have z : ((sm_ms[142]?).map fun y => y.2.2.1) = some 4 := by decide +kernel
    rw [hy2] at z
    exact Option.some.inj z
  rw [n1] at X
  rw [n2, rv223] at M
  have X' : Ev d1 11 (0, [some (.ref 0), some (.int (xs (i.toNatClampNeg + (0 + 1)))), some (.int (xs (i.toNatClampNeg + (1 + 1)))), some (.int (xs (i.toNatClampNeg + (2 + 1))))], [], h, fl_tot) (some w, h1, fl_tot) := X
  have M' : Ev d2 142 (0, [some (.ref 223), some (.int (xs (i.toNatClampNeg + (0 + 1)))), some (.int (xs (i.toNatClampNeg + (1 + 1)))), some (.int (xs (i.toNatClampNeg + (2 + 1))))], [], h1, fl_tot) (some v, h2, fl_tot) := M
  obtain ⟨ewv, B9⟩ := bt2_tray U.1.1 I.1 X' M'
  have U2 : LJ h2 := by
    rcases B9 with eq | ⟨n, b1, b2, b3⟩
    · rw [eq]
      exact U
    · rw [b3]
      exact ⟨LI.tray U.1 b1 b2 _ _ _ (by rw [← b3]; exact I2.1), RO.k_trayHH U.2 b2 _ _ _⟩
  refine ⟨h2, I2, U2, fun d r hd e => ?_⟩
  have g3 : Ev d 214 (184, lwL i, [], h2, fl_tot) r := Ev.step (c' := (816, lwL i, [], h2, fl_tot)) (show fl_code 214 184 = some (8, [816], 187) by decide +kernel) rfl e
  have g2 := lc_walk_ok I1 B 60 164 [] 180 _ [] (show lc_walk 60 164 [] = some (180, lwA 3 (xc 31 : Nat)) by decide +kernel) d r (K2 d r [] hd (by decide) (lc_pop (lg := false) hv (show fl_code 214 183 = some (popO false, [], 184) by decide +kernel) g3))
  exact lc_walk_ok I B 60 144 [] 160 _ [] (show lc_walk 60 144 [] = some (160, lwA 3 (0 : Nat)) by decide +kernel) d r (K1 d r [] hd (by decide) (lc_pop (lg := false) hw (show fl_code 214 163 = some (popO false, [], 164) by decide +kernel) g2))
theorem lcs_1 {L : Nat} {xs : Nat → Int32} {h : Hp} (I : LwI L xs h) (U : LJ h) {i : Int32} (B : LwB L i) : ∃ h', LwI L xs h' ∧ LJ h' ∧ ∀ d r, 20 ≤ d → Ev d 214 (816, lwL i, [], h', fl_tot) r → Ev d 214 (187, lwL i, [], h, fl_tot) r := by
  obtain ⟨w, h1, X, fr1, I1, hw, K1⟩ := lc_xe (lg := false) (pc := 188) (nx := 191) (m := 14) (k := 0) (j := 5) I i (by decide +kernel) (by decide +kernel) (by decide +kernel)
  obtain ⟨v, h2, M, fr2, I2, hv, K2⟩ := lc_me (lg := false) (pc := 193) (nx := 196) (m := 144) (k := 0) (nL := 1) I1 i pv_144 (by decide +kernel) (by decide +kernel) (by decide) (by decide +kernel) (by decide +kernel)
  obtain ⟨d1, y1, hy1, X⟩ := X
  obtain ⟨d2, y2, hy2, M⟩ := M
  have n1 : y1.2.2.1 = 1 := by
    have z : ((sm_ms[14]?).map fun y => y.2.2.1) = some 1 := by decide +kernel
    rw [hy1] at z
    exact Option.some.inj z
  have n2 : y2.2.2.1 = 1 := by
    have z : ((sm_ms[144]?).map fun y => y.2.2.1) = some 1 := by decide +kernel
    rw [hy2] at z
    exact Option.some.inj z
  rw [n1] at X
  rw [n2, rv223] at M
  have X' : Ev d1 14 (0, [some (.ref 0)], [], h, fl_tot) (some w, h1, fl_tot) := X
  have M' : Ev d2 144 (0, [some (.ref 223)], [], h1, fl_tot) (some v, h2, fl_tot) := M
  obtain ⟨ewv, B9⟩ := bt2_clerk U.1.1 I.1 X' M'
  have U2 : LJ h2 := by
    rcases B9 with eq | ⟨n, b1, b2, b3⟩
    · rw [eq]
      exact U
    · rw [b3]
      exact ⟨LI.clerk U.1 b1 b2 (by rw [← b3]; exact I2.1), RO.k_clerkHH U.2 b2⟩
  refine ⟨h2, I2, U2, fun d r hd e => ?_⟩
  have g3 : Ev d 214 (197, lwL i, [], h2, fl_tot) r := Ev.step (c' := (816, lwL i, [], h2, fl_tot)) (show fl_code 214 197 = some (8, [816], 200) by decide +kernel) rfl e
  have g2 := lc_walk_ok I1 B 60 192 [] 193 _ [] (show lc_walk 60 192 [] = some (193, lwA 0 (xc 31 : Nat)) by decide +kernel) d r (K2 d r [] hd (by decide) (lc_pop (lg := false) hv (show fl_code 214 196 = some (popO false, [], 197) by decide +kernel) g3))
  exact lc_walk_ok I B 60 187 [] 188 _ [] (show lc_walk 60 187 [] = some (188, lwA 0 (0 : Nat)) by decide +kernel) d r (K1 d r [] hd (by decide) (lc_pop (lg := false) hw (show fl_code 214 191 = some (popO false, [], 192) by decide +kernel) g2))
theorem lcs_2 {L : Nat} {xs : Nat → Int32} {h : Hp} (I : LwI L xs h) (U : LJ h) {i : Int32} (B : LwB L i) : ∃ h', LwI L xs h' ∧ LJ h' ∧ ∀ d r, 20 ≤ d → Ev d 214 (816, lwL i, [], h', fl_tot) r → Ev d 214 (200, lwL i, [], h, fl_tot) r := by
  obtain ⟨w, h1, X, fr1, I1, hw, K1⟩ := lc_xe (lg := false) (pc := 226) (nx := 229) (m := 16) (k := 5) (j := 10) I i (by decide +kernel) (by decide +kernel) (by decide +kernel)
  obtain ⟨v, h2, M, fr2, I2, hv, K2⟩ := lc_me (lg := false) (pc := 256) (nx := 259) (m := 145) (k := 5) (nL := 7) I1 i pv_145 (by decide +kernel) (by decide +kernel) (by decide) (by decide +kernel) (by decide +kernel)
  obtain ⟨d1, y1, hy1, X⟩ := X
  obtain ⟨d2, y2, hy2, M⟩ := M
  have n1 : y1.2.2.1 = 6 := by
    have z : ((sm_ms[16]?).map fun y => y.2.2.1) = some 6 := by decide +kernel
    rw [hy1] at z
    exact Option.some.inj z
  have n2 : y2.2.2.1 = 7 := by
    have z : ((sm_ms[145]?).map fun y => y.2.2.1) = some 7 := by decide +kernel
    rw [hy2] at z
    exact Option.some.inj z
  rw [n1] at X
  rw [n2, rv223] at M
  have X' : Ev d1 16 (0, [some (.ref 0), some (.int (xs (i.toNatClampNeg + (0 + 1)))), some (.int (xs (i.toNatClampNeg + (1 + 1)))), some (.int (xs (i.toNatClampNeg + (2 + 1)))), some (.int (xs (i.toNatClampNeg + (3 + 1)))), some (.int (xs (i.toNatClampNeg + (4 + 1))))], [], h, fl_tot) (some w, h1, fl_tot) := X
  have M' : Ev d2 145 (0, [some (.ref 223), some (.int (xs (i.toNatClampNeg + (0 + 1)))), some (.int (xs (i.toNatClampNeg + (1 + 1)))), some (.int (xs (i.toNatClampNeg + (2 + 1)))), some (.int (xs (i.toNatClampNeg + (3 + 1)))), some (.int (xs (i.toNatClampNeg + (4 + 1)))), none], [], h1, fl_tot) (some v, h2, fl_tot) := M
  obtain ⟨ewv, B9⟩ := bt2_act U.1.1 I.1 X' M'
  have U2 : LJ h2 := by
    rcases B9 with eq | ⟨c0, n, b1, b2, b3, b4, b5, b6⟩
    · rw [eq]
      exact U
    · rw [b6]
      exact ⟨LI.act I.1 U.1 b1 b2 b3 b4 b5 (by rw [← b6]; exact I2.1), RO.k_actHH U.2 b1 b4 _ _ _ _⟩
  refine ⟨h2, I2, U2, fun d r hd e => ?_⟩
  have g3 : Ev d 214 (260, lwL i, [], h2, fl_tot) r := Ev.step (c' := (816, lwL i, [], h2, fl_tot)) (show fl_code 214 260 = some (8, [816], 263) by decide +kernel) rfl e
  have g2 := lc_walk_ok I1 B 60 230 [] 256 _ [] (show lc_walk 60 230 [] = some (256, lwA 5 (xc 31 : Nat)) by decide +kernel) d r (K2 d r [] hd (by decide) (lc_pop (lg := false) hv (show fl_code 214 259 = some (popO false, [], 260) by decide +kernel) g3))
  exact lc_walk_ok I B 60 200 [] 226 _ [] (show lc_walk 60 200 [] = some (226, lwA 5 (0 : Nat)) by decide +kernel) d r (K1 d r [] hd (by decide) (lc_pop (lg := false) hw (show fl_code 214 229 = some (popO false, [], 230) by decide +kernel) g2))
theorem lcs_3 {L : Nat} {xs : Nat → Int32} {h : Hp} (I : LwI L xs h) (U : LJ h) {i : Int32} (B : LwB L i) : ∃ h', LwI L xs h' ∧ LJ h' ∧ ∀ d r, 20 ≤ d → Ev d 214 (816, lwL i, [], h', fl_tot) r → Ev d 214 (263, lwL i, [], h, fl_tot) r := by
  obtain ⟨w, h1, X, fr1, I1, hw, K1⟩ := lc_xe (lg := false) (pc := 274) (nx := 277) (m := 21) (k := 2) (j := 11) I i (by decide +kernel) (by decide +kernel) (by decide +kernel)
  obtain ⟨v, h2, M, fr2, I2, hv, K2⟩ := lc_me (lg := false) (pc := 289) (nx := 292) (m := 149) (k := 2) (nL := 3) I1 i pv_149 (by decide +kernel) (by decide +kernel) (by decide) (by decide +kernel) (by decide +kernel)
  obtain ⟨d1, y1, hy1, X⟩ := X
  obtain ⟨d2, y2, hy2, M⟩ := M
  have n1 : y1.2.2.1 = 3 := by
    have z : ((sm_ms[21]?).map fun y => y.2.2.1) = some 3 := by decide +kernel
    rw [hy1] at z
    exact Option.some.inj z
  have n2 : y2.2.2.1 = 3 := by
    have z : ((sm_ms[149]?).map fun y => y.2.2.1) = some 3 := by decide +kernel
    rw [hy2] at z
    exact Option.some.inj z
  rw [n1] at X
  rw [n2, rv223] at M
  have X' : Ev d1 21 (0, [some (.ref 0), some (.int (xs (i.toNatClampNeg + (0 + 1)))), some (.int (xs (i.toNatClampNeg + (1 + 1))))], [], h, fl_tot) (some w, h1, fl_tot) := X
  have M' : Ev d2 149 (0, [some (.ref 223), some (.int (xs (i.toNatClampNeg + (0 + 1)))), some (.int (xs (i.toNatClampNeg + (1 + 1))))], [], h1, fl_tot) (some v, h2, fl_tot) := M
  obtain ⟨ewv, B9⟩ := bt2_baton U.1.1 I.1 X' M'
  have U2 : LJ h2 := by
    rcases B9 with eq | ⟨n, y, b1⟩
    · rw [eq]
      exact U
    · rw [b1]
      exact ⟨LI.baton U.1 n y (by rw [← b1]; exact I2.1), RO.k_batHH U.2 n y⟩
  refine ⟨h2, I2, U2, fun d r hd e => ?_⟩
  have g3 : Ev d 214 (293, lwL i, [], h2, fl_tot) r := Ev.step (c' := (816, lwL i, [], h2, fl_tot)) (show fl_code 214 293 = some (8, [816], 296) by decide +kernel) rfl e
  have g2 := lc_walk_ok I1 B 60 278 [] 289 _ [] (show lc_walk 60 278 [] = some (289, lwA 2 (xc 31 : Nat)) by decide +kernel) d r (K2 d r [] hd (by decide) (lc_pop (lg := false) hv (show fl_code 214 292 = some (popO false, [], 293) by decide +kernel) g3))
  exact lc_walk_ok I B 60 263 [] 274 _ [] (show lc_walk 60 263 [] = some (274, lwA 2 (0 : Nat)) by decide +kernel) d r (K1 d r [] hd (by decide) (lc_pop (lg := false) hw (show fl_code 214 277 = some (popO false, [], 278) by decide +kernel) g2))
theorem lcs_4 {L : Nat} {xs : Nat → Int32} {h : Hp} (I : LwI L xs h) (U : LJ h) {i : Int32} (B : LwB L i) : ∃ h', LwI L xs h' ∧ LJ h' ∧ ∀ d r, 20 ≤ d → Ev d 214 (816, lwL i, [], h', fl_tot) r → Ev d 214 (296, lwL i, [], h, fl_tot) r := by
  obtain ⟨w, h1, X, fr1, I1, hw, K1⟩ := lc_xe (lg := false) (pc := 312) (nx := 315) (m := 22) (k := 3) (j := 13) I i (by decide +kernel) (by decide +kernel) (by decide +kernel)
  obtain ⟨v, h2, M, fr2, I2, hv, K2⟩ := lc_me (lg := false) (pc := 332) (nx := 335) (m := 150) (k := 3) (nL := 4) I1 i pv_150 (by decide +kernel) (by decide +kernel) (by decide) (by decide +kernel) (by decide +kernel)
  obtain ⟨d1, y1, hy1, X⟩ := X
  obtain ⟨d2, y2, hy2, M⟩ := M
  have n1 : y1.2.2.1 = 4 := by
    have z : ((sm_ms[22]?).map fun y => y.2.2.1) = some 4 := by decide +kernel
    rw [hy1] at z
    exact Option.some.inj z
  have n2 : y2.2.2.1 = 4 := by
    have z : ((sm_ms[150]?).map fun y => y.2.2.1) = some 4 := by decide +kernel
    rw [hy2] at z
    exact Option.some.inj z
  rw [n1] at X
  rw [n2, rv223] at M
  have X' : Ev d1 22 (0, [some (.ref 0), some (.int (xs (i.toNatClampNeg + (0 + 1)))), some (.int (xs (i.toNatClampNeg + (1 + 1)))), some (.int (xs (i.toNatClampNeg + (2 + 1))))], [], h, fl_tot) (some w, h1, fl_tot) := X
  have M' : Ev d2 150 (0, [some (.ref 223), some (.int (xs (i.toNatClampNeg + (0 + 1)))), some (.int (xs (i.toNatClampNeg + (1 + 1)))), some (.int (xs (i.toNatClampNeg + (2 + 1))))], [], h1, fl_tot) (some v, h2, fl_tot) := M
  obtain ⟨ewv, B9⟩ := bt2_patience U.1.1 I.1 X' M'
  have U2 : LJ h2 := by
    rcases B9 with eq | ⟨c0, n, y, b1, b2, b3⟩
    · rw [eq]
      exact U
    · rw [b3]
      exact ⟨LI.patience U.1 b1 b2 y (by rw [← b3]; exact I2.1), RO.k_patHH U.2 b1 b2 y⟩
  refine ⟨h2, I2, U2, fun d r hd e => ?_⟩
  have g3 : Ev d 214 (336, lwL i, [], h2, fl_tot) r := Ev.step (c' := (816, lwL i, [], h2, fl_tot)) (show fl_code 214 336 = some (8, [816], 339) by decide +kernel) rfl e
  have g2 := lc_walk_ok I1 B 60 316 [] 332 _ [] (show lc_walk 60 316 [] = some (332, lwA 3 (xc 31 : Nat)) by decide +kernel) d r (K2 d r [] hd (by decide) (lc_pop (lg := false) hv (show fl_code 214 335 = some (popO false, [], 336) by decide +kernel) g3))
  exact lc_walk_ok I B 60 296 [] 312 _ [] (show lc_walk 60 296 [] = some (312, lwA 3 (0 : Nat)) by decide +kernel) d r (K1 d r [] hd (by decide) (lc_pop (lg := false) hw (show fl_code 214 315 = some (popO false, [], 316) by decide +kernel) g2))
theorem lcs_5 {L : Nat} {xs : Nat → Int32} {h : Hp} (I : LwI L xs h) (U : LJ h) {i : Int32} (B : LwB L i) : ∃ h', LwI L xs h' ∧ LJ h' ∧ ∀ d r, 20 ≤ d → Ev d 214 (816, lwL i, [], h', fl_tot) r → Ev d 214 (339, lwL i, [], h, fl_tot) r := by
  obtain ⟨w, h1, X, fr1, I1, hw, K1⟩ := lc_xe (lg := false) (pc := 355) (nx := 358) (m := 24) (k := 3) (j := 14) I i (by decide +kernel) (by decide +kernel) (by decide +kernel)
  obtain ⟨v, h2, M, fr2, I2, hv, K2⟩ := lc_me (lg := false) (pc := 375) (nx := 378) (m := 152) (k := 3) (nL := 4) I1 i pv_152 (by decide +kernel) (by decide +kernel) (by decide) (by decide +kernel) (by decide +kernel)
  obtain ⟨d1, y1, hy1, X⟩ := X
  obtain ⟨d2, y2, hy2, M⟩ := M
  have n1 : y1.2.2.1 = 4 := by
    have z : ((sm_ms[24]?).map fun y => y.2.2.1) = some 4 := by decide +kernel
    rw [hy1] at z
    exact Option.some.inj z
  have n2 : y2.2.2.1 = 4 := by
    have z : ((sm_ms[152]?).map fun y => y.2.2.1) = some 4 := by decide +kernel
    rw [hy2] at z
    exact Option.some.inj z
  rw [n1] at X
  rw [n2, rv223] at M
  have X' : Ev d1 24 (0, [some (.ref 0), some (.int (xs (i.toNatClampNeg + (0 + 1)))), some (.int (xs (i.toNatClampNeg + (1 + 1)))), some (.int (xs (i.toNatClampNeg + (2 + 1))))], [], h, fl_tot) (some w, h1, fl_tot) := X
  have M' : Ev d2 152 (0, [some (.ref 223), some (.int (xs (i.toNatClampNeg + (0 + 1)))), some (.int (xs (i.toNatClampNeg + (1 + 1)))), some (.int (xs (i.toNatClampNeg + (2 + 1))))], [], h1, fl_tot) (some v, h2, fl_tot) := M
  obtain ⟨ewv, B9⟩ := bt2_throwing U.1.1 I.1 X' M'
  have U2 : LJ h2 := by
    rcases B9 with eq | ⟨t0, n, y, b1, b2, b3, b4⟩
    · rw [eq]
      exact U
    · rw [b4]
      exact ⟨LI.throwing U.1 b1 b2 b3 y (by rw [← b4]; exact I2.1), RO.k_thrHH U.2 b1 b3 y⟩
  refine ⟨h2, I2, U2, fun d r hd e => ?_⟩
  have g3 : Ev d 214 (379, lwL i, [], h2, fl_tot) r := Ev.step (c' := (816, lwL i, [], h2, fl_tot)) (show fl_code 214 379 = some (8, [816], 382) by decide +kernel) rfl e
  have g2 := lc_walk_ok I1 B 60 359 [] 375 _ [] (show lc_walk 60 359 [] = some (375, lwA 3 (xc 31 : Nat)) by decide +kernel) d r (K2 d r [] hd (by decide) (lc_pop (lg := false) hv (show fl_code 214 378 = some (popO false, [], 379) by decide +kernel) g3))
  exact lc_walk_ok I B 60 339 [] 355 _ [] (show lc_walk 60 339 [] = some (355, lwA 3 (0 : Nat)) by decide +kernel) d r (K1 d r [] hd (by decide) (lc_pop (lg := false) hw (show fl_code 214 358 = some (popO false, [], 359) by decide +kernel) g2))
theorem lcs_6 {L : Nat} {xs : Nat → Int32} {h : Hp} (I : LwI L xs h) (U : LJ h) {i : Int32} (B : LwB L i) : ∃ h', LwI L xs h' ∧ LJ h' ∧ ∀ d r, 20 ≤ d → Ev d 214 (816, lwL i, [], h', fl_tot) r → Ev d 214 (382, lwL i, [], h, fl_tot) r := by
  obtain ⟨w, h1, X, ⟨cc0, hcc, F1⟩, fr1, I1, hw, K1⟩ := lc_xf (lg := false) (pc := 383) (nx := 386) (m := 25) (k := 0) (j := 73) I i (by decide +kernel) (by decide +kernel) (by decide +kernel)
  obtain ⟨v, h2, M, fr2, I2, hv, K2⟩ := lc_me (lg := false) (pc := 388) (nx := 391) (m := 153) (k := 0) (nL := 3) I1 i pv_153 (by decide +kernel) (by decide +kernel) (by decide) (by decide +kernel) (by decide +kernel)
  obtain ⟨d1, y1, hy1, X⟩ := X
  obtain ⟨d2, y2, hy2, M⟩ := M
  have n1 : y1.2.2.1 = 1 := by
    have z : ((sm_ms[25]?).map fun y => y.2.2.1) = some 1 := by decide +kernel
    rw [hy1] at z
    exact Option.some.inj z
  have n2 : y2.2.2.1 = 3 := by
    have z : ((sm_ms[153]?).map fun y => y.2.2.1) = some 3 := by decide +kernel
    rw [hy2] at z
    exact Option.some.inj z
  rw [n1] at X
  rw [n2, rv223] at M
  have X' : Ev d1 25 (0, [some (.ref 0)], [], h, fl_tot) (some w, h1, fl_tot) := X
  have M' : Ev d2 153 (0, [some (.ref 223), none, none], [], h1, fl_tot) (some v, h2, fl_tot) := M
  obtain ⟨ewv, hx9, u, st', q1, q2, q3, q4, q5, q6, q7, q8, q9⟩ := run_case U.1 I.1 I1.1 I1.2.1.1 X' M'
  have hmod : xlMods cc0.2.2.2.2.1 = true ∧ 28 ∉ cc0.2.2.2.2.1 := by
    have q : ctModsL 73 = true ∧ ct28 73 = true := by decide +kernel
    unfold ctModsL ct28 at q
    rw [hcc] at q
    refine ⟨q.1, fun z => ?_⟩
    have q2 := q.2
    simp only [Bool.not_eq_true'] at q2
    rw [List.contains_iff_mem.mpr z] at q2
    cases q2
  have U1 : LI h1 := LI.x (S := [10, 18, 25, 26, 27, 28, 29, 30, 31, 32, 33, 34, 35, 36, 37, 38, 39, 40, 41, 42, 43, 44, 45, 46, 47, 48, 49, 50, 51, 52, 53, 54, 55, 56, 57, 58, 59, 60, 61, 62, 63, 64, 65, 66, 67, 68, 69, 70, 71, 72, 73, 74, 75, 76, 77, 78, 79, 80]) U.1 I1.1 X' (by decide +kernel) (by decide +kernel) F1 hmod.1 (fun r z1 z2 => fr1 r (kdb z1 z2)) (fun q _ => by rw [(F1 222 (by rw [show ab_kd 222 = 28 from by decide +kernel]; exact hmod.2)).1])
  obtain ⟨v', h2', r1, r2, r3, r4, r5⟩ := c_run I1.1 I1.2.1.1
  have u9 : Ev 14 153 (0, [some (.ref 223), none, none], [], h1, fl_tot) (some (iv v'), h2', fl_tot) := by
    have := r1 14 (by omega)
    rw [rv223] at this
    exact this
  have e8 : h2 = h2' := congrArg (fun r => r.2.1) (ev_det M' u9)
  subst e8
  have m74 : h2.1 223 74 = h.1 223 74 := by
    rw [r4.fc 74 (by decide), fr1 223 (kdb (by decide) (by decide))]
  have U2 : LJ h2 := ⟨U1.m I2.1 (r4.wide rfl rfl) fr2, RO.run U.1 I.1 U.2 q1 q2 q3 q6 q8 q9 m74 fr2⟩
  refine ⟨h2, I2, U2, fun d r hd e => ?_⟩
  have g3 : Ev d 214 (392, lwL i, [], h2, fl_tot) r := Ev.step (c' := (816, lwL i, [], h2, fl_tot)) (show fl_code 214 392 = some (8, [816], 395) by decide +kernel) rfl e
  have g2 := lc_walk_ok I1 B 60 387 [] 388 _ [] (show lc_walk 60 387 [] = some (388, lwA 0 (xc 31 : Nat)) by decide +kernel) d r (K2 d r [] hd (by decide) (lc_pop (lg := false) hv (show fl_code 214 391 = some (popO false, [], 392) by decide +kernel) g3))
  exact lc_walk_ok I B 60 382 [] 383 _ [] (show lc_walk 60 382 [] = some (383, lwA 0 (0 : Nat)) by decide +kernel) d r (K1 d r [] hd (by decide) (lc_pop (lg := false) hw (show fl_code 214 386 = some (popO false, [], 387) by decide +kernel) g2))
theorem lcs_7 {L : Nat} {xs : Nat → Int32} {h : Hp} (I : LwI L xs h) (U : LJ h) {i : Int32} (B : LwB L i) : ∃ h', LwI L xs h' ∧ LJ h' ∧ ∀ d r, 20 ≤ d → Ev d 214 (816, lwL i, [], h', fl_tot) r → Ev d 214 (395, lwL i, [], h, fl_tot) r :=
  lc_twoJ (j := 74) (k := 2) (mx := 81) (mm := 179) (nL := 3) (pc1 := 406) (nx1 := 409) (q1 := 410) (pc2 := 421) (nx2 := 424) (q2 := 425) (lg := false) (zz := 428) I U B [17, 23, 81] pv_179 pg_179 (by decide +kernel) (by decide +kernel) (by decide +kernel) (by decide +kernel) (by decide +kernel) (by decide +kernel) (by decide +kernel) (by decide +kernel) (by decide +kernel) (by decide) (by decide +kernel) (by decide +kernel) (by decide +kernel) (by decide +kernel) (by decide +kernel) (by decide +kernel)
theorem lcs_8 {L : Nat} {xs : Nat → Int32} {h : Hp} (I : LwI L xs h) (U : LJ h) {i : Int32} (B : LwB L i) : ∃ h', LwI L xs h' ∧ LJ h' ∧ ∀ d r, 20 ≤ d → Ev d 214 (816, lwL i, [], h', fl_tot) r → Ev d 214 (428, lwL i, [], h, fl_tot) r :=
  lc_twoJ (j := 75) (k := 2) (mx := 82) (mm := 180) (nL := 3) (pc1 := 439) (nx1 := 442) (q1 := 443) (pc2 := 454) (nx2 := 457) (q2 := 458) (lg := false) (zz := 461) I U B [17, 23, 82] pv_180 pg_180 (by decide +kernel) (by decide +kernel) (by decide +kernel) (by decide +kernel) (by decide +kernel) (by decide +kernel) (by decide +kernel) (by decide +kernel) (by decide +kernel) (by decide) (by decide +kernel) (by decide +kernel) (by decide +kernel) (by decide +kernel) (by decide +kernel) (by decide +kernel)
theorem lcs_9 {L : Nat} {xs : Nat → Int32} {h : Hp} (I : LwI L xs h) (U : LJ h) {i : Int32} (B : LwB L i) : ∃ h', LwI L xs h' ∧ LJ h' ∧ ∀ d r, 20 ≤ d → Ev d 214 (816, lwL i, [], h', fl_tot) r → Ev d 214 (461, lwL i, [], h, fl_tot) r :=
  lc_twoJ (j := 76) (k := 2) (mx := 83) (mm := 181) (nL := 3) (pc1 := 472) (nx1 := 475) (q1 := 476) (pc2 := 487) (nx2 := 490) (q2 := 491) (lg := false) (zz := 494) I U B [17, 23, 83] pv_181 pg_181 (by decide +kernel) (by decide +kernel) (by decide +kernel) (by decide +kernel) (by decide +kernel) (by decide +kernel) (by decide +kernel) (by decide +kernel) (by decide +kernel) (by decide) (by decide +kernel) (by decide +kernel) (by decide +kernel) (by decide +kernel) (by decide +kernel) (by decide +kernel)
theorem lcs_10 {L : Nat} {xs : Nat → Int32} {h : Hp} (I : LwI L xs h) (U : LJ h) {i : Int32} (B : LwB L i) : ∃ h', LwI L xs h' ∧ LJ h' ∧ ∀ d r, 20 ≤ d → Ev d 214 (816, lwL i, [], h', fl_tot) r → Ev d 214 (494, lwL i, [], h, fl_tot) r :=
  lc_twoJ (j := 77) (k := 2) (mx := 84) (mm := 182) (nL := 3) (pc1 := 505) (nx1 := 508) (q1 := 509) (pc2 := 520) (nx2 := 523) (q2 := 524) (lg := false) (zz := 527) I U B [84] pv_182 pg_182 (by decide +kernel) (by decide +kernel) (by decide +kernel) (by decide +kernel) (by decide +kernel) (by decide +kernel) (by decide +kernel) (by decide +kernel) (by decide +kernel) (by decide) (by decide +kernel) (by decide +kernel) (by decide +kernel) (by decide +kernel) (by decide +kernel) (by decide +kernel)
theorem lcs_11 {L : Nat} {xs : Nat → Int32} {h : Hp} (I : LwI L xs h) (U : LJ h) {i : Int32} (B : LwB L i) : ∃ h', LwI L xs h' ∧ LJ h' ∧ ∀ d r, 20 ≤ d → Ev d 214 (816, lwL i, [], h', fl_tot) r → Ev d 214 (527, lwL i, [], h, fl_tot) r := by
  obtain ⟨w, h1, X, ⟨cc0, hcc, F1⟩, fr1, I1, hw, K1⟩ := lc_xf (lg := false) (pc := 533) (nx := 536) (m := 85) (k := 1) (j := 80) I i (by decide +kernel) (by decide +kernel) (by decide +kernel)
  obtain ⟨v, h2, M, fr2, I2, hv, K2⟩ := lc_me (lg := false) (pc := 542) (nx := 545) (m := 183) (k := 1) (nL := 4) I1 i pv_183 (by decide +kernel) (by decide +kernel) (by decide) (by decide +kernel) (by decide +kernel)
  obtain ⟨d1, y1, hy1, X⟩ := X
  obtain ⟨d2, y2, hy2, M⟩ := M
  have n1 : y1.2.2.1 = 2 := by
    have z : ((sm_ms[85]?).map fun y => y.2.2.1) = some 2 := by decide +kernel
    rw [hy1] at z
    exact Option.some.inj z
  have n2 : y2.2.2.1 = 4 := by
    have z : ((sm_ms[183]?).map fun y => y.2.2.1) = some 4 := by decide +kernel
    rw [hy2] at z
    exact Option.some.inj z
  rw [n1] at X
  rw [n2, rv223] at M
  have X' : Ev d1 85 (0, [some (.ref 0), some (.int (xs (i.toNatClampNeg + (0 + 1))))], [], h, fl_tot) (some w, h1, fl_tot) := X
  have M' : Ev d2 183 (0, [some (.ref 223), some (.int (xs (i.toNatClampNeg + (0 + 1)))), none, none], [], h1, fl_tot) (some v, h2, fl_tot) := M
  have ewv : w = v := cmp_count U.1 U.2 I.1 X' M'
  have U1 : LJ h1 := U.x (S := [37, 79, 85, 86, 87]) I.1 I1.1 X' (by decide +kernel) (by decide +kernel) F1 (ct_get hcc (by decide +kernel)) (fun r z1 z2 => fr1 r (kdb z1 z2))
  obtain ⟨v', h2', u1, u2⟩ := pg_183 h1 I1.1 I1.2.1 (lwV 1 i xs) (by unfold lwV; simp)
  rw [rv223] at u1
  have u9 : Ev 14 183 (0, [some (.ref 223), some (.int (xs (i.toNatClampNeg + (0 + 1)))), none, none], [], h1, fl_tot) (v', h2', fl_tot) := u1 14 (Nat.le_refl _)
  have e8 : h2 = h2' := congrArg (fun r => r.2.1) (ev_det M' u9)
  subst e8
  have U2 : LJ h2 := U1.m I1.1 I2.1 u2 fr2
  obtain ⟨x, hx⟩ := hv.1 rfl
  rw [hx] at ewv K2
  rw [ewv] at K1
  refine ⟨h2, I2, U2, fun d r hd e => ?_⟩
  have e1 : Ev d 214 (545, lwL i, [.int x, .int x], h2, fl_tot) r := by
    refine Ev.step (q := (7, [0, 816], 548)) (c' := (816, lwL i, [], h2, fl_tot)) (by dsimp only; decide +kernel) ?_ e
    simp [fl_step, fl_cmp]
  have e2 := lc_walk_ok I1 B 60 536 [] 542 _ [.int x] (show lc_walk 60 536 [] = some (542, lwA 1 (xc 31 : Nat)) by decide +kernel) d r (K2 d r [.int x] hd (Nat.le_of_ble_eq_true rfl) e1)
  exact lc_walk_ok I B 60 527 [] 533 _ [] (show lc_walk 60 527 [] = some (533, lwA 1 (0 : Nat)) by decide +kernel) d r (K1 d r [] hd (by decide) e2)
theorem lcs_12 {L : Nat} {xs : Nat → Int32} {h : Hp} (I : LwI L xs h) (U : LJ h) {i : Int32} (B : LwB L i) : ∃ h', LwI L xs h' ∧ LJ h' ∧ ∀ d r, 20 ≤ d → Ev d 214 (816, lwL i, [], h', fl_tot) r → Ev d 214 (550, lwL i, [], h, fl_tot) r :=
  lc_twoJ (j := 83) (k := 1) (mx := 88) (mm := 184) (nL := 2) (pc1 := 556) (nx1 := 559) (q1 := 560) (pc2 := 566) (nx2 := 569) (q2 := 570) (lg := false) (zz := 573) I U B [18, 88, 89, 90] pv_184 pg_184 (by decide +kernel) (by decide +kernel) (by decide +kernel) (by decide +kernel) (by decide +kernel) (by decide +kernel) (by decide +kernel) (by decide +kernel) (by decide +kernel) (by decide) (by decide +kernel) (by decide +kernel) (by decide +kernel) (by decide +kernel) (by decide +kernel) (by decide +kernel)
theorem lcs_13 {L : Nat} {xs : Nat → Int32} {h : Hp} (I : LwI L xs h) (U : LJ h) {i : Int32} (B : LwB L i) : ∃ h', LwI L xs h' ∧ LJ h' ∧ ∀ d r, 20 ≤ d → Ev d 214 (816, lwL i, [], h', fl_tot) r → Ev d 214 (573, lwL i, [], h, fl_tot) r :=
  lc_twoJ (j := 90) (k := 3) (mx := 91) (mm := 186) (nL := 4) (pc1 := 589) (nx1 := 592) (q1 := 593) (pc2 := 609) (nx2 := 612) (q2 := 613) (lg := false) (zz := 616) I U B [18, 51, 52, 89, 90, 91, 92, 93, 94, 95, 96, 97] pv_186 pg_186 (by decide +kernel) (by decide +kernel) (by decide +kernel) (by decide +kernel) (by decide +kernel) (by decide +kernel) (by decide +kernel) (by decide +kernel) (by decide +kernel) (by decide) (by decide +kernel) (by decide +kernel) (by decide +kernel) (by decide +kernel) (by decide +kernel) (by decide +kernel)
theorem lcs_14 {L : Nat} {xs : Nat → Int32} {h : Hp} (I : LwI L xs h) (U : LJ h) {i : Int32} (B : LwB L i) : ∃ h', LwI L xs h' ∧ LJ h' ∧ ∀ d r, 20 ≤ d → Ev d 214 (816, lwL i, [], h', fl_tot) r → Ev d 214 (616, lwL i, [], h, fl_tot) r :=
  lc_twoJ (j := 91) (k := 0) (mx := 98) (mm := 190) (nL := 1) (pc1 := 617) (nx1 := 620) (q1 := 621) (pc2 := 622) (nx2 := 625) (q2 := 626) (lg := false) (zz := 629) I U B [98] pv_190 pg_190 (by decide +kernel) (by decide +kernel) (by decide +kernel) (by decide +kernel) (by decide +kernel) (by decide +kernel) (by decide +kernel) (by decide +kernel) (by decide +kernel) (by decide) (by decide +kernel) (by decide +kernel) (by decide +kernel) (by decide +kernel) (by decide +kernel) (by decide +kernel)
theorem lcs_15 {L : Nat} {xs : Nat → Int32} {h : Hp} (I : LwI L xs h) (U : LJ h) {i : Int32} (B : LwB L i) : ∃ h', LwI L xs h' ∧ LJ h' ∧ ∀ d r, 20 ≤ d → Ev d 214 (816, lwL i, [], h', fl_tot) r → Ev d 214 (629, lwL i, [], h, fl_tot) r :=
  lc_twoJ (j := 96) (k := 2) (mx := 99) (mm := 191) (nL := 5) (pc1 := 640) (nx1 := 643) (q1 := 644) (pc2 := 655) (nx2 := 658) (q2 := 659) (lg := false) (zz := 662) I U B [18, 99, 100, 101, 102, 103] pv_191 pg_191 (by decide +kernel) (by decide +kernel) (by decide +kernel) (by decide +kernel) (by decide +kernel) (by decide +kernel) (by decide +kernel) (by decide +kernel) (by decide +kernel) (by decide) (by decide +kernel) (by decide +kernel) (by decide +kernel) (by decide +kernel) (by decide +kernel) (by decide +kernel)
theorem lcs_16 {L : Nat} {xs : Nat → Int32} {h : Hp} (I : LwI L xs h) (U : LJ h) {i : Int32} (B : LwB L i) : ∃ h', LwI L xs h' ∧ LJ h' ∧ ∀ d r, 20 ≤ d → Ev d 214 (816, lwL i, [], h', fl_tot) r → Ev d 214 (662, lwL i, [], h, fl_tot) r :=
  lc_twoJ (j := 129) (k := 1) (mx := 104) (mm := 192) (nL := 2) (pc1 := 668) (nx1 := 671) (q1 := 672) (pc2 := 678) (nx2 := 681) (q2 := 682) (lg := false) (zz := 685) I U B [10, 17, 18, 23, 29, 51, 52, 54, 55, 56, 61, 68, 70, 71, 72, 74, 75, 77, 97, 104, 105, 106, 107, 108, 109, 110, 111, 112, 113, 114, 115, 116, 117, 118, 119, 120, 121, 122, 123, 124] pv_192 pg_192 (by decide +kernel) (by decide +kernel) (by decide +kernel) (by decide +kernel) (by decide +kernel) (by decide +kernel) (by decide +kernel) (by decide +kernel) (by decide +kernel) (by decide) (by decide +kernel) (by decide +kernel) (by decide +kernel) (by decide +kernel) (by decide +kernel) (by decide +kernel)
theorem lcs_17 {L : Nat} {xs : Nat → Int32} {h : Hp} (I : LwI L xs h) (U : LJ h) {i : Int32} (B : LwB L i) : ∃ h', LwI L xs h' ∧ LJ h' ∧ ∀ d r, 20 ≤ d → Ev d 214 (816, lwL i, [], h', fl_tot) r → Ev d 214 (685, lwL i, [], h, fl_tot) r :=
  lc_twoJ (j := 131) (k := 2) (mx := 125) (mm := 203) (nL := 3) (pc1 := 696) (nx1 := 699) (q1 := 700) (pc2 := 711) (nx2 := 714) (q2 := 715) (lg := false) (zz := 718) I U B [10, 17, 18, 23, 29, 51, 52, 54, 55, 56, 61, 68, 70, 71, 72, 74, 75, 77, 97, 105, 106, 107, 108, 109, 110, 111, 112, 113, 114, 115, 116, 117, 118, 119, 120, 121, 122, 123, 124, 125, 126] pv_203 pg_203 (by decide +kernel) (by decide +kernel) (by decide +kernel) (by decide +kernel) (by decide +kernel) (by decide +kernel) (by decide +kernel) (by decide +kernel) (by decide +kernel) (by decide) (by decide +kernel) (by decide +kernel) (by decide +kernel) (by decide +kernel) (by decide +kernel) (by decide +kernel)
theorem lcs_18 {L : Nat} {xs : Nat → Int32} {h : Hp} (I : LwI L xs h) (U : LJ h) {i : Int32} (B : LwB L i) : ∃ h', LwI L xs h' ∧ LJ h' ∧ ∀ d r, 20 ≤ d → Ev d 214 (816, lwL i, [], h', fl_tot) r → Ev d 214 (718, lwL i, [], h, fl_tot) r :=
  lc_twoJ (j := 132) (k := 0) (mx := 127) (mm := 204) (nL := 1) (pc1 := 719) (nx1 := 722) (q1 := 723) (pc2 := 724) (nx2 := 727) (q2 := 728) (lg := false) (zz := 731) I U B [127] pv_204 pg_204 (by decide +kernel) (by decide +kernel) (by decide +kernel) (by decide +kernel) (by decide +kernel) (by decide +kernel) (by decide +kernel) (by decide +kernel) (by decide +kernel) (by decide) (by decide +kernel) (by decide +kernel) (by decide +kernel) (by decide +kernel) (by decide +kernel) (by decide +kernel)
theorem lcs_19 {L : Nat} {xs : Nat → Int32} {h : Hp} (I : LwI L xs h) (U : LJ h) {i : Int32} (B : LwB L i) : ∃ h', LwI L xs h' ∧ LJ h' ∧ ∀ d r, 20 ≤ d → Ev d 214 (816, lwL i, [], h', fl_tot) r → Ev d 214 (731, lwL i, [], h, fl_tot) r :=
  lc_twoJ (j := 133) (k := 0) (mx := 128) (mm := 205) (nL := 2) (pc1 := 732) (nx1 := 735) (q1 := 736) (pc2 := 737) (nx2 := 740) (q2 := 741) (lg := false) (zz := 744) I U B [10, 17, 18, 23, 29, 51, 52, 54, 55, 56, 61, 68, 70, 71, 72, 74, 75, 77, 97, 105, 106, 107, 108, 109, 110, 111, 112, 113, 114, 115, 116, 117, 118, 119, 120, 121, 122, 123, 124, 128] pv_205 pg_205 (by decide +kernel) (by decide +kernel) (by decide +kernel) (by decide +kernel) (by decide +kernel) (by decide +kernel) (by decide +kernel) (by decide +kernel) (by decide +kernel) (by decide) (by decide +kernel) (by decide +kernel) (by decide +kernel) (by decide +kernel) (by decide +kernel) (by decide +kernel)
theorem lcs_20 {L : Nat} {xs : Nat → Int32} {h : Hp} (I : LwI L xs h) (U : LJ h) {i : Int32} (B : LwB L i) : ∃ h', LwI L xs h' ∧ LJ h' ∧ ∀ d r, 20 ≤ d → Ev d 214 (816, lwL i, [], h', fl_tot) r → Ev d 214 (744, lwL i, [], h, fl_tot) r := by
  obtain ⟨w, h1, X, ⟨cc0, hcc, F1⟩, fr1, I1, hw, K1⟩ := lc_xf (lg := false) (pc := 750) (nx := 753) (m := 129) (k := 1) (j := 142) I i (by decide +kernel) (by decide +kernel) (by decide +kernel)
  obtain ⟨v, h2, M, fr2, I2, hv, K2⟩ := lc_me (lg := false) (pc := 760) (nx := 763) (m := 206) (k := 1) (nL := 7) I1 i pv_206 (by decide +kernel) (by decide +kernel) (by decide) (by decide +kernel) (by decide +kernel)
  obtain ⟨d1, y1, hy1, X⟩ := X
  obtain ⟨d2, y2, hy2, M⟩ := M
  have n1 : y1.2.2.1 = 4 := by
    have z : ((sm_ms[129]?).map fun y => y.2.2.1) = some 4 := by decide +kernel
    rw [hy1] at z
    exact Option.some.inj z
  have n2 : y2.2.2.1 = 7 := by
    have z : ((sm_ms[206]?).map fun y => y.2.2.1) = some 7 := by decide +kernel
    rw [hy2] at z
    exact Option.some.inj z
  rw [n1] at X
  rw [n2, rv223] at M
  have X' : Ev d1 129 (0, [some (.ref 0), some (.int (xs (i.toNatClampNeg + (0 + 1)))), none, none], [], h, fl_tot) (some w, h1, fl_tot) := X
  have M' : Ev d2 206 (0, [some (.ref 223), some (.int (xs (i.toNatClampNeg + (0 + 1)))), none, none, none, none, none], [], h1, fl_tot) (some v, h2, fl_tot) := M
  obtain ⟨ewv, D⟩ := explore_case U.1 U.2.2.1 I.1 I1.1 I1.2.1.1 X' M'
  have hmod : xlMods cc0.2.2.2.2.1 = true := by
    have q : ctModsL 142 = true := by decide +kernel
    unfold ctModsL at q
    rw [hcc] at q
    exact q
  have U1 : LI h1 := LI.x (S := [10, 17, 18, 23, 26, 27, 28, 29, 30, 31, 32, 33, 34, 35, 36, 37, 38, 39, 40, 41, 42, 43, 44, 45, 46, 47, 48, 49, 50, 51, 52, 53, 54, 55, 56, 57, 58, 59, 60, 61, 62, 63, 64, 65, 66, 67, 68, 69, 70, 71, 72, 73, 74, 75, 76, 77, 78, 79, 80, 97, 106, 107, 108, 109, 110, 111, 112, 113, 114, 115, 116, 117, 118, 119, 120, 121, 122, 123, 124, 129, 130, 131, 132, 133, 134, 135]) U.1 I1.1 X' (by decide +kernel) (by decide +kernel) F1 hmod (fun r z1 z2 => fr1 r (kdb z1 z2)) (x_expl_222 U.1 I.1 X')
  obtain ⟨v', h2', u1, u2⟩ := pf_206 h1 I1.1 I1.2.1 (lwV 1 i xs) (by unfold lwV; simp)
  rw [rv223] at u1
  have u9 : Ev 14 206 (0, [some (.ref 223), some (.int (xs (i.toNatClampNeg + (0 + 1)))), none, none, none, none, none], [], h1, fl_tot) (v', h2', fl_tot) := u1 14 (Nat.le_refl _)
  have e8 : h2 = h2' := congrArg (fun r => r.2.1) (ev_det M' u9)
  subst e8
  have O2 : RO h2 := by
    rcases D with ⟨d1', d2'⟩ | ⟨hL, hx, hm, u, st', q1, q2, q3, q4, q5, q6, q7, q8, q9, q10, q11, q12, q13, dz, z, q14⟩
    · rw [d2']
      exact U.2
    · exact RO.expl U.2 q3 q1 q2 q5 q8 q10 q11 q12 q13 q14 fr2
  have U2 : LJ h2 := ⟨U1.m I2.1 u2 fr2, O2⟩
  refine ⟨h2, I2, U2, fun d r hd e => ?_⟩
  have g3 : Ev d 214 (764, lwL i, [], h2, fl_tot) r := Ev.step (c' := (816, lwL i, [], h2, fl_tot)) (show fl_code 214 764 = some (8, [816], 767) by decide +kernel) rfl e
  have g2 := lc_walk_ok I1 B 60 754 [] 760 _ [] (show lc_walk 60 754 [] = some (760, lwA 1 (xc 31 : Nat)) by decide +kernel) d r (K2 d r [] hd (by decide) (lc_pop (lg := false) hv (show fl_code 214 763 = some (popO false, [], 764) by decide +kernel) g3))
  exact lc_walk_ok I B 60 744 [] 750 _ [] (show lc_walk 60 744 [] = some (750, lwA 1 (0 : Nat)) by decide +kernel) d r (K1 d r [] hd (by decide) (lc_pop (lg := false) hw (show fl_code 214 753 = some (popO false, [], 754) by decide +kernel) g2))
theorem lcs_21 {L : Nat} {xs : Nat → Int32} {h : Hp} (I : LwI L xs h) (U : LJ h) {i : Int32} (B : LwB L i) : ∃ h', LwI L xs h' ∧ LJ h' ∧ ∀ d r, 20 ≤ d → Ev d 214 (816, lwL i, [], h', fl_tot) r → Ev d 214 (767, lwL i, [], h, fl_tot) r :=
  lc_twoJ (j := 143) (k := 1) (mx := 136) (mm := 211) (nL := 2) (pc1 := 773) (nx1 := 776) (q1 := 777) (pc2 := 783) (nx2 := 786) (q2 := 787) (lg := false) (zz := 790) I U B [136] pv_211 pg_211 (by decide +kernel) (by decide +kernel) (by decide +kernel) (by decide +kernel) (by decide +kernel) (by decide +kernel) (by decide +kernel) (by decide +kernel) (by decide +kernel) (by decide) (by decide +kernel) (by decide +kernel) (by decide +kernel) (by decide +kernel) (by decide +kernel) (by decide +kernel)
theorem lcs_22 {L : Nat} {xs : Nat → Int32} {h : Hp} (I : LwI L xs h) (U : LJ h) {i : Int32} (B : LwB L i) : ∃ h', LwI L xs h' ∧ LJ h' ∧ ∀ d r, 20 ≤ d → Ev d 214 (816, lwL i, [], h', fl_tot) r → Ev d 214 (790, lwL i, [], h, fl_tot) r :=
  lc_twoJ (j := 146) (k := 0) (mx := 137) (mm := 212) (nL := 6) (pc1 := 791) (nx1 := 794) (q1 := 795) (pc2 := 796) (nx2 := 799) (q2 := 800) (lg := true) (zz := 803) I U B [51, 52, 89, 90, 92, 93, 94, 95, 96, 97, 137, 138, 139] pv_212 pg_212 (by decide +kernel) (by decide +kernel) (by decide +kernel) (by decide +kernel) (by decide +kernel) (by decide +kernel) (by decide +kernel) (by decide +kernel) (by decide +kernel) (by decide) (by decide +kernel) (by decide +kernel) (by decide +kernel) (by decide +kernel) (by decide +kernel) (by decide +kernel)
theorem lcs_23 {L : Nat} {xs : Nat → Int32} {h : Hp} (I : LwI L xs h) (U : LJ h) {i : Int32} (B : LwB L i) : ∃ h', LwI L xs h' ∧ LJ h' ∧ ∀ d r, 20 ≤ d → Ev d 214 (816, lwL i, [], h', fl_tot) r → Ev d 214 (803, lwL i, [], h, fl_tot) r := by
  obtain ⟨w, h1, X, fr1, I1, hw, K1⟩ := lc_xe (lg := false) (pc := 804) (nx := 807) (m := 140) (k := 0) (j := 147) I i (by decide +kernel) (by decide +kernel) (by decide +kernel)
  obtain ⟨v, h2, M, fr2, I2, hv, K2⟩ := lc_me (lg := false) (pc := 809) (nx := 812) (m := 213) (k := 0) (nL := 3) I1 i pv_213 (by decide +kernel) (by decide +kernel) (by decide) (by decide +kernel) (by decide +kernel)
  obtain ⟨d1, y1, hy1, X⟩ := X
  obtain ⟨d2, y2, hy2, M⟩ := M
  have n1 : y1.2.2.1 = 2 := by
    have z : ((sm_ms[140]?).map fun y => y.2.2.1) = some 2 := by decide +kernel
    rw [hy1] at z
    exact Option.some.inj z
  have n2 : y2.2.2.1 = 3 := by
    have z : ((sm_ms[213]?).map fun y => y.2.2.1) = some 3 := by decide +kernel
    rw [hy2] at z
    exact Option.some.inj z
  rw [n1] at X
  rw [n2, rv223] at M
  have X' : Ev d1 140 (0, [some (.ref 0), none], [], h, fl_tot) (some w, h1, fl_tot) := X
  have M' : Ev d2 213 (0, [some (.ref 223), none, none], [], h1, fl_tot) (some v, h2, fl_tot) := M
  obtain ⟨ewv, B9⟩ := bt2_clear U.1.1 I.1 X' M'
  have U2 : LJ h2 := by
    rw [B9]
    exact ⟨LI.clear U.1 (by rw [← B9]; exact I2.1), RO.k_clrHH U.2⟩
  refine ⟨h2, I2, U2, fun d r hd e => ?_⟩
  have g3 : Ev d 214 (813, lwL i, [], h2, fl_tot) r := Ev.step (c' := (816, lwL i, [], h2, fl_tot)) (show fl_code 214 813 = some (8, [816], 816) by decide +kernel) rfl e
  have g2 := lc_walk_ok I1 B 60 808 [] 809 _ [] (show lc_walk 60 808 [] = some (809, lwA 0 (xc 31 : Nat)) by decide +kernel) d r (K2 d r [] hd (by decide) (lc_pop (lg := false) hv (show fl_code 214 812 = some (popO false, [], 813) by decide +kernel) g3))
  exact lc_walk_ok I B 60 803 [] 804 _ [] (show lc_walk 60 803 [] = some (804, lwA 0 (0 : Nat)) by decide +kernel) d r (K1 d r [] hd (by decide) (lc_pop (lg := false) hw (show fl_code 214 807 = some (popO false, [], 808) by decide +kernel) g2))
/-! THE LOOP -/
def lcT : List Int := [816, 144, 187, 200, 263, 296, 339, 382, 395, 428, 461, 494, 527, 550, 573, 616, 629, 662, 685, 718, 731, 744, 767, 790, 803]
theorem lc_head {L : Nat} {xs : Nat → Int32} {h : Hp} (I : LwI L xs h) (hL : L ≤ 3072) {i : Int32} (h0 : 0 ≤ i.toInt) (h1 : i.toInt ≤ L + 6) :
    (L < i.toInt + 6 ∧ ∀ d, Ev d 214 (18, lwL i, [], h, fl_tot) (some (.int 1), h, fl_tot)) ∨ (LwB L i ∧ ∃ t ∈ lcT, ∀ d r, Ev d 214 (t.toNat, lwL i, [], h, fl_tot) r → Ev d 214 (18, lwL i, [], h, fl_tot) r) := by
  have hlen := lc_len I hL
  have eL : (Int32.ofNat L).toInt = L := by
    show (Int32.ofInt (L : Int)).toInt = L
    exact ofInt_toInt (by omega) (by omega)
  have e6 : (Int32.ofNat L - Int32.ofInt 6).toInt = L - 6 := by
    rw [Int32.toInt_sub, eL, ofInt_toInt (by omega) (by omega), i_bm (by omega) (by omega)]
  have pre : ∀ d r, Ev d 214 (24, lwL i, [.int (Int32.ofNat L - Int32.ofInt 6), .int i], h, fl_tot) r → Ev d 214 (18, lwL i, [], h, fl_tot) r := fun d r e => by
    refine Ev.step (q := (2, [3, 0], 19)) (c' := (19, lwL i, [.int i], h, fl_tot)) (by dsimp only; decide +kernel) rfl ?_
    refine Ev.step (q := (2, [0, 2], 20)) (c' := (20, lwL i, [.ref 1010, .int i], h, fl_tot)) (by dsimp only; decide +kernel) rfl ?_
    refine Ev.step (q := (17, [], 21)) (c' := (21, lwL i, [.int (Int32.ofNat L), .int i], h, fl_tot)) (by dsimp only; decide +kernel) ?_ ?_
    · show some (Sum.inl (21, lwL i, [Value.int (Int32.ofNat (fl_len h 1010)), .int i], h, fl_tot)) = _
      rw [hlen]
    refine Ev.step (q := (1, [6], 23)) (c' := (23, lwL i, [.int (Int32.ofInt 6), .int (Int32.ofNat L), .int i], h, fl_tot)) (by dsimp only; decide +kernel) rfl ?_
    exact Ev.step (q := (5, [1], 24)) (c' := (24, lwL i, [.int (Int32.ofNat L - Int32.ofInt 6), .int i], h, fl_tot)) (by dsimp only; decide +kernel) rfl e
  by_cases hc : Int32.ofNat L - Int32.ofInt 6 < i
  · refine Or.inl ⟨?_, fun d => pre d _ ?_⟩
    · have := Int32.lt_iff_toInt_lt.mp hc
      omega
    · refine Ev.step (q := (7, [4, 822], 27)) (c' := (822, lwL i, [], h, fl_tot)) (by dsimp only; decide +kernel) ?_ ?_
      · show some (Sum.inl ((if decide (Int32.ofNat L - Int32.ofInt 6 < i) = true then (822 : Int).toNat else 27), lwL i, [], h, fl_tot)) = _
        rw [decide_eq_true hc]
        rfl
      · refine Ev.step (q := (1, [1], 823)) (c' := (823, lwL i, [.int 1], h, fl_tot)) (by dsimp only; decide +kernel) rfl ?_
        exact Ev.ret (q := (22, [1], 824)) (c := (823, lwL i, [.int 1], h, fl_tot)) (by dsimp only; decide +kernel) rfl
  · have B : LwB L i := by
      refine ⟨h0, ?_, hL⟩
      have : ¬ (Int32.ofNat L - Int32.ofInt 6).toInt < i.toInt := fun z => hc (Int32.lt_iff_toInt_lt.mpr z)
      omega
    have hi := lc_clamp h0
    have hsw : ∃ t ∈ lcT, fl_step (40, [0, 816, 144, 187, 200, 263, 296, 339, 382, 395, 428, 461, 494, 527, 550, 573, 616, 629, 662, 685, 718, 731, 744, 767, 790, 803], 144) (33, lwL i, [.int (xs i.toNatClampNeg &&& Int32.ofInt 31)], h, fl_tot) = some (.inl (t.toNat, lwL i, [], h, fl_tot)) := by
      simp only [fl_step]
      split
      · exact ⟨_, by decide, rfl⟩
      · split
        · rename_i t ht
          exact ⟨t, List.mem_of_getElem? ht |> fun z => by unfold lcT; exact List.mem_cons_of_mem _ z, rfl⟩
        · exact ⟨_, by decide, rfl⟩
    obtain ⟨t, ht, hs⟩ := hsw
    refine Or.inr ⟨B, t, ht, fun d r e => pre d r ?_⟩
    refine Ev.step (q := (7, [4, 822], 27)) (c' := (27, lwL i, [], h, fl_tot)) (by dsimp only; decide +kernel) ?_ ?_
    · show some (Sum.inl ((if decide (Int32.ofNat L - Int32.ofInt 6 < i) = true then (822 : Int).toNat else 27), lwL i, [], h, fl_tot)) = _
      rw [decide_eq_false hc]
      rfl
    refine Ev.step (q := (2, [0, 2], 28)) (c' := (28, lwL i, [.ref 1010], h, fl_tot)) (by dsimp only; decide +kernel) rfl ?_
    refine Ev.step (q := (2, [3, 0], 29)) (c' := (29, lwL i, [.int i, .ref 1010], h, fl_tot)) (by dsimp only; decide +kernel) rfl ?_
    refine Ev.step (q := (11, [], 30)) (c' := (30, lwL i, [.int (xs i.toNatClampNeg)], h, fl_tot)) (by dsimp only; decide +kernel) ?_ ?_
    · have hin : fl_in i (fl_len h 1010) = true := by
        rw [hlen]
        exact (n_of h0 (by have := B.2.1; omega)).1
      show (if fl_isI fl_tot 1010 && fl_in i (fl_len h 1010) then some (Sum.inl (30, lwL i, [Value.int (h.1 1010 i.toNatClampNeg)], h, fl_tot)) else none) = _
      rw [hin, if_pos (show (fl_isI fl_tot 1010 && true) = true by decide), I.2.2.1]
    refine Ev.step (q := (1, [31], 32)) (c' := (32, lwL i, [.int (Int32.ofInt 31), .int (xs i.toNatClampNeg)], h, fl_tot)) (by dsimp only; decide +kernel) rfl ?_
    refine Ev.step (q := (5, [8], 33)) (c' := (33, lwL i, [.int (xs i.toNatClampNeg &&& Int32.ofInt 31)], h, fl_tot)) (by dsimp only; decide +kernel) rfl ?_
    exact Ev.step (q := (40, [0, 816, 144, 187, 200, 263, 296, 339, 382, 395, 428, 461, 494, 527, 550, 573, 616, 629, 662, 685, 718, 731, 744, 767, 790, 803], 144)) (by dsimp only; decide +kernel) hs e
theorem lc_case {L : Nat} {xs : Nat → Int32} {h : Hp} (I : LwI L xs h) (U : LJ h) {i : Int32} (B : LwB L i) {t : Int} (ht : t ∈ lcT) : ∃ h', LwI L xs h' ∧ LJ h' ∧ ∀ d r, 20 ≤ d → Ev d 214 (816, lwL i, [], h', fl_tot) r → Ev d 214 (t.toNat, lwL i, [], h, fl_tot) r := by
  simp only [lcT, List.mem_cons, List.not_mem_nil, or_false] at ht
  rcases ht with rfl | rfl | rfl | rfl | rfl | rfl | rfl | rfl | rfl | rfl | rfl | rfl | rfl | rfl | rfl | rfl | rfl | rfl | rfl | rfl | rfl | rfl | rfl | rfl | rfl
  · exact ⟨h, I, U, fun d r _ e => e⟩
  · exact lcs_0 I U B
  · exact lcs_1 I U B
  · exact lcs_2 I U B
  · exact lcs_3 I U B
  · exact lcs_4 I U B
  · exact lcs_5 I U B
  · exact lcs_6 I U B
  · exact lcs_7 I U B
  · exact lcs_8 I U B
  · exact lcs_9 I U B
  · exact lcs_10 I U B
  · exact lcs_11 I U B
  · exact lcs_12 I U B
  · exact lcs_13 I U B
  · exact lcs_14 I U B
  · exact lcs_15 I U B
  · exact lcs_16 I U B
  · exact lcs_17 I U B
  · exact lcs_18 I U B
  · exact lcs_19 I U B
  · exact lcs_20 I U B
  · exact lcs_21 I U B
  · exact lcs_22 I U B
  · exact lcs_23 I U B
theorem lc_loop {L : Nat} {xs : Nat → Int32} (hL : L ≤ 3072) : ∀ (n : Nat) (i : Int32) (h : Hp), LwI L xs h → LJ h → L + 6 - i.toInt < n → 0 ≤ i.toInt → i.toInt ≤ L + 6 → ∃ h', ∀ d, 20 ≤ d → Ev d 214 (18, lwL i, [], h, fl_tot) (some (.int 1), h', fl_tot) := by
  intro n
  induction n with
  | zero => intro i h I Q h1 h2 h3; omega
  | succ n ih =>
    intro i h I Q h1 h2 h3
    rcases lc_head I hL h2 h3 with ⟨-, K⟩ | ⟨B, t, ht, K⟩
    · exact ⟨h, fun d _ => K d⟩
    · obtain ⟨h2', I2, Q2, K2⟩ := lc_case I Q B ht
      have e6 := lc_add B (z := 6) (by omega) (by omega)
      have B2 := B.2.1
      obtain ⟨h', K3⟩ := ih (i + Int32.ofInt 6) h2' I2 Q2 (by omega) (by omega) (by omega)
      refine ⟨h', fun d hd => K d _ (K2 d _ hd ?_)⟩
      refine Ev.step (q := (4, [3, 6], 819)) (c' := (819, lwL (i + Int32.ofInt 6), [], h2', fl_tot)) (by dsimp only; decide +kernel) rfl ?_
      exact Ev.step (q := (8, [18], 822)) (c' := (18, lwL (i + Int32.ofInt 6), [], h2', fl_tot)) (by dsimp only; decide +kernel) rfl (K3 d hd)
/-! FROM THE START -/
theorem ct_ex : ∃ w c w2 c2, ct_a = some (false, w, c) ∧ c.2.1 = [some (.ref 1010), some (.ref 0), none, none] ∧ c.2.2.1 = [rv 31, rv 31] ∧ ct_b c.2.2.2.1 c.2.2.2.2 = some (false, w2, c2) ∧ c2.2.2.2.2 = 285 ∧ cmT c2.2.2.2.1 = true ∧ c2.2.1 = [some (rv 31), some (.int 0)] ∧ c2.2.2.1 = [] := by
  have h := ct_ok
  unfold ct_ck at h
  split at h
  · rename_i w c hc
    rw [Bool.and_eq_true] at h
    obtain ⟨h1, h2⟩ := h
    split at h1
    · rename_i a b x y e1 e2
      simp only [Bool.and_eq_true, decide_eq_true_eq] at h1
      obtain ⟨⟨⟨rfl, rfl⟩, rfl⟩, rfl⟩ := h1
      split at h2
      · rename_i w2 c2 hc2
        unfold ct_ckb at h2
        simp only [Bool.and_eq_true, decide_eq_true_eq] at h2
        obtain ⟨⟨⟨k1, k2⟩, k3⟩, k4⟩ := h2
        split at k3
        · rename_i a z e3
          simp only [Bool.and_eq_true, decide_eq_true_eq] at k3
          obtain ⟨rfl, rfl⟩ := k3
          exact ⟨w, c, w2, c2, hc, e1, e2, hc2, k1, k2, e3, List.isEmpty_iff.mp k4⟩
        · cases k3
      · cases h2
    · cases h1
  · cases h
theorem flat_law : FlatLaw := fun L xs hL => by
  obtain ⟨w, c, w2, c2, a1, a2, a3, a4, a5, a6, a7, a8⟩ := ct_ex
  have g0 : ∀ r j, r < 1000 → (fl_h0 (fl_g L xs)).1 r j = 0 ∧ (fl_h0 (fl_g L xs)).2 r j = none := fun r j hr => by
    unfold fl_h0
    refine ⟨?_, rfl⟩
    show (if 1000 ≤ r then _ else (0 : Int32)) = 0
    rw [if_neg (by omega)]
  have far : ∀ r j, 1000 ≤ r → (fl_h0 (fl_g L xs)).1 r j = fl_g L xs (r - 1000) j := fun r j hr => by
    show (if 1000 ≤ r then fl_g L xs (r - 1000) j else (0 : Int32)) = _
    rw [if_pos hr]
  generalize hg : fl_h0 (fl_g L xs) = g at *
  have G0 : cmG g ([], []) 0 := fun r j _ hr => g0 r j hr
  obtain ⟨G1, -, K1⟩ := cm_ok (g := g) 20000 10 214 12 (0, fl_enter 4 [.ref 1010], [], ([], []), 0) false w c a1 G0
  obtain ⟨e1, K1⟩ := K1 rfl
  obtain ⟨G2, -, K2⟩ := cm_ok (g := g) 20000 10 141 497 (0, fl_enter 2 [rv 31], [], c.2.2.2.1, c.2.2.2.2) false w2 c2 a4 G1
  obtain ⟨e2, K2⟩ := K2 rfl
  have T := cmT_ok (g := g) g0 a6
  have z4 : rd 31 4 (hpL g c2.2.2.2.1) = 0 := by
    show ((hpL g c2.2.2.2.1).1 (xc 31) 4).toInt = 0
    rw [hp_far a6 (by decide +kernel), (g0 (xc 31) 4 (by decide +kernel)).1]
    rfl
  have z13 : rd 31 13 (hpL g c2.2.2.2.1) = 0 := by
    show ((hpL g c2.2.2.2.1).1 (xc 31) 13).toInt = 0
    rw [hp_far a6 (by decide +kernel), (g0 (xc 31) 13 (by decide +kernel)).1]
    rfl
  have G : RG (hpL g c2.2.2.2.1) := RG.off (fun cl j q1 q2 => by omega) z13
  obtain ⟨h', u1, u2, u3, u4, u5, u6⟩ := c_ini2 T G 601 0 [some (rv 31), some (.int 0)] _ T ⟨T, Rf.refl _⟩ G (by omega) (by omega) (LVs.self _)
  have I : LwI L xs h' := by
    refine ⟨u2.1, u3, fun j => ?_, ?_⟩
    · rw [u2.2.2 1010 (by decide +kernel), hp_far a6 (by decide +kernel), far 1010 j (by omega)]
      rfl
    · rw [u2.2.2 1011 (by decide +kernel), hp_far a6 (by decide +kernel), far 1011 0 (by omega)]
      rfl
  have Q : LJ h' := ⟨LI_start (L := L) (xs := xs) a1 a4 a6 g0 far u2 u4 u6, RO_start a1 a4 a6 g0 u2 u4⟩
  obtain ⟨h'', K3⟩ := lc_loop hL (L + 7) 0 h' I Q (by show (L : Int) + 6 - 0 < _; omega) (by decide) (by show (0 : Int) ≤ _; omega)
  have f1 : Ev 40 214 (rl g (0, fl_enter 4 [.ref 1010], [], ([], []), 0)) (some (.int 1), h'', fl_tot) := by
    refine K1 40 _ (by omega) ?_
    have ec : rl g c = (12, [some (.ref 1010), some (.ref 0), none, none], [rv 31, rv 31], hpL g c.2.2.2.1, c.2.2.2.2) := by
      unfold rl
      rw [e1, a2, a3]
    rw [ec]
    have f2 : Ev 39 141 (0, fl_enter 2 [rv 31], [], hpL g c.2.2.2.1, c.2.2.2.2) (none, h', fl_tot) := by
      refine K2 39 _ (by omega) ?_
      have ec2 : rl g c2 = (497, [some (rv 31), some (.int 0)], [], hpL g c2.2.2.2.1, fl_tot) := by
        unfold rl
        rw [e2, a5, a7, a8]
      rw [ec2]
      exact u1 39 (by omega)
    obtain ⟨y, hy, hl⟩ : ∃ y, sm_ms[141]? = some y ∧ y.2.2.1 = 2 := ⟨_, rfl, rfl⟩
    refine Ev.call (q := (20, [141, 0], 15)) (as := [rv 31]) (rest := [rv 31]) (m2 := 141) (nx := 15) (by dsimp only; decide +kernel) rfl hy (by rw [hl]; decide) (by rw [hl]; exact f2) ?_
    · refine Ev.step (q := (3, [2, 2], 16)) (c' := (16, [some (.ref 1010), some (.ref 0), some (rv 31), none], [], h', fl_tot)) (by dsimp only; decide +kernel) rfl ?_
      refine Ev.step (q := (1, [0], 17)) (c' := (17, [some (.ref 1010), some (.ref 0), some (rv 31), none], [.int 0], h', fl_tot)) (by dsimp only; decide +kernel) rfl ?_
      exact Ev.step (q := (3, [3, 0], 18)) (c' := (18, lwL 0, [], h', fl_tot)) (by dsimp only; decide +kernel) rfl (K3 40 (by omega))
  obtain ⟨f, hf⟩ := f1
  exact ⟨f, h'', hf⟩
