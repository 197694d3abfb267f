def tys_s141 : List TY := [(2, 31, 0), (1, 0, 600)]
def stys_s141 : List TY := []
theorem chk_s141 : sg_check ([(141, 497)], [], []) 141 497 tys_s141 stys_s141 [(2, (0, 0, 0, 0), (([(2, 1, 31), (1, 2, 0)], [], [(0, 0), (1, 0), (600, 600)], []), [(3, 0, (1, 2, 0), (1, 0, 600), 0)], [])),
 (0, (497, 0, 0, 0), (([(2, 1, 31), (1, 2, 1)], [], [(0, 0), (1, 0), (0, 599), (1, 0)], [(1, 31, 11, (2, 3, 41))]), [(2, 0, (1, 2, 0), (1, 0, 600), 0)], [(41, (1, 2, 0), (1, 0, -1))]))] = true := by decide +kernel
theorem s141 {h : Hp} (hT : TInv h) {ls : List (Option Value)} {i : Int} (b_i : 0 ≤ i ∧ i ≤ 600) (hl : LVs [some (rv 31), some (iv i)] ls) :
  ((600 ≤ i ∧ i ≤ 600) ∧ (600 ≤ i) ∧ Nx h h ∧ (∀ dd, 3 ≤ dd → Ev dd 141 (497, ls, [], h, fl_tot) (none, h, fl_tot))) ∨
  (∃ (g1 : Hp), (g1 = wr 41 i (-1) h) ∧ (0 ≤ i ∧ i ≤ 599) ∧ (i < 600) ∧ Nx h g1 ∧ (∃ ls', LVs [some (rv 31), some (iv (i + 1))] ls' ∧ ∀ dd rr, 3 ≤ dd → Ev dd 141 (497, ls', [], g1, fl_tot) rr → Ev dd 141 (497, ls, [], h, fl_tot) rr)) := by
  have H := seg chk_s141 (zs := [i]) (szs := []) hT (show HB tys_s141 [i] from ⟨b_i, trivial⟩) (show HB stys_s141 [] from trivial) hl
  rcases H with ⟨tq, hE, hF, k1, k2⟩ | ⟨tq, hE, hF, k1, ls', k2, k3⟩
  · exact Or.inl ⟨hE 2 (600, 600) rfl (by decide), hF.1, k1, k2⟩
  · exact Or.inr ⟨_, rfl, hE 2 (0, 599) rfl (by decide), hF.1, k1, ls', k2, k3⟩

set_option maxRecDepth 20000
/-! THE REFERENCE'S METHODS, AS THE LAW CALLS THEM -/
theorem ivc (a : Int32) : Value.int a = iv a.toInt := by unfold iv; rw [Int32.ofInt_toInt]
theorem pv_142 : PV 142 4 3 := fun h hT G vs hv => by
  match vs, hv with
  | [a0, a1, a2], _ =>
    show PubOut h 142 4 [rv 31, Value.int a0, Value.int a1, Value.int a2]
    rw [ivc a0, ivc a1, ivc a2]
    exact c_tray hT G (i_rng a0) (i_rng a1) (i_rng a2)
theorem pv_144 : PV 144 1 0 := fun h hT G vs hv => by
  match vs, hv with
  | [], _ =>
    show PubOut h 144 1 [rv 31]
    exact c_clerk hT G 
theorem pv_145 : PV 145 7 5 := fun h hT G vs hv => by
  match vs, hv with
  | [a0, a1, a2, a3, a4], _ =>
    show PubOut h 145 7 [rv 31, Value.int a0, Value.int a1, Value.int a2, Value.int a3, Value.int a4]
    rw [ivc a0, ivc a1, ivc a2, ivc a3, ivc a4]
    exact c_act hT G (i_rng a0) (i_rng a1) (i_rng a2) (i_rng a3) (i_rng a4)
theorem pv_149 : PV 149 3 2 := fun h hT G vs hv => by
  match vs, hv with
  | [a0, a1], _ =>
    show PubOut h 149 3 [rv 31, Value.int a0, Value.int a1]
    rw [ivc a0, ivc a1]
    obtain ⟨h', u1, u2, u3⟩ := c_baton hT G (i_rng a0) (i_rng a1)
    exact ⟨_, h', u1, u2, u3⟩
theorem pv_150 : PV 150 4 3 := fun h hT G vs hv => by
  match vs, hv with
  | [a0, a1, a2], _ =>
    show PubOut h 150 4 [rv 31, Value.int a0, Value.int a1, Value.int a2]
    rw [ivc a0, ivc a1, ivc a2]
    exact c_patience hT G (i_rng a0) (i_rng a1) (i_rng a2)
theorem pv_152 : PV 152 4 3 := fun h hT G vs hv => by
  match vs, hv with
  | [a0, a1, a2], _ =>
    show PubOut h 152 4 [rv 31, Value.int a0, Value.int a1, Value.int a2]
    rw [ivc a0, ivc a1, ivc a2]
    exact c_throwing hT G (i_rng a0) (i_rng a1) (i_rng a2)
theorem pv_153 : PV 153 3 0 := fun h hT G vs hv => by
  match vs, hv with
  | [], _ =>
    show PubOut h 153 3 [rv 31]
    obtain ⟨z, h', r1, r2, r3, r4, r5⟩ := c_run hT G.1
    exact ⟨_, h', fun d hd => r1 d (by omega), r2, r3.1, fun _ => r3⟩
theorem pv_179 : PV 179 3 2 := fun h hT G vs hv => by
  match vs, hv with
  | [a0, a1], _ =>
    show PubOut h 179 3 [rv 31, Value.int a0, Value.int a1]
    rw [ivc a0, ivc a1]
    exact c_answer hT G (i_rng a0) (i_rng a1)
theorem pv_180 : PV 180 3 2 := fun h hT G vs hv => by
  match vs, hv with
  | [a0, a1], _ =>
    show PubOut h 180 3 [rv 31, Value.int a0, Value.int a1]
    rw [ivc a0, ivc a1]
    exact c_outcome hT G (i_rng a0) (i_rng a1)
theorem pv_181 : PV 181 3 2 := fun h hT G vs hv => by
  match vs, hv with
  | [a0, a1], _ =>
    show PubOut h 181 3 [rv 31, Value.int a0, Value.int a1]
    rw [ivc a0, ivc a1]
    exact c_waited hT G (i_rng a0) (i_rng a1)
theorem pv_182 : PV 182 3 2 := fun h hT G vs hv => by
  match vs, hv with
  | [a0, a1], _ =>
    show PubOut h 182 3 [rv 31, Value.int a0, Value.int a1]
    rw [ivc a0, ivc a1]
    exact c_mark hT G (i_rng a0) (i_rng a1)
theorem pv_183 : PV 183 4 1 := fun h hT G vs hv => by
  match vs, hv with
  | [a0], _ =>
    show PubOut h 183 4 [rv 31, Value.int a0]
    rw [ivc a0]
    exact p_count hT G (i_rng a0)
theorem pv_184 : PV 184 2 1 := fun h hT G vs hv => by
  match vs, hv with
  | [a0], _ =>
    show PubOut h 184 2 [rv 31, Value.int a0]
    rw [ivc a0]
    exact p_size hT G (i_rng a0)
theorem pv_186 : PV 186 4 3 := fun h hT G vs hv => by
  match vs, hv with
  | [a0, a1, a2], _ =>
    show PubOut h 186 4 [rv 31, Value.int a0, Value.int a1, Value.int a2]
    rw [ivc a0, ivc a1, ivc a2]
    exact c_card hT G (i_rng a0) (i_rng a1) (i_rng a2)
theorem pv_190 : PV 190 1 0 := fun h hT G vs hv => by
  match vs, hv with
  | [], _ =>
    show PubOut h 190 1 [rv 31]
    exact c_asked hT G 
theorem pv_191 : PV 191 5 2 := fun h hT G vs hv => by
  match vs, hv with
  | [a0, a1], _ =>
    show PubOut h 191 5 [rv 31, Value.int a0, Value.int a1]
    rw [ivc a0, ivc a1]
    exact c_about hT G (i_rng a0) (i_rng a1)
theorem pv_192 : PV 192 2 1 := fun h hT G vs hv => by
  match vs, hv with
  | [a0], _ =>
    show PubOut h 192 2 [rv 31, Value.int a0]
    rw [ivc a0]
    exact c_fits hT G (i_rng a0)
theorem pv_203 : PV 203 3 2 := fun h hT G vs hv => by
  match vs, hv with
  | [a0, a1], _ =>
    show PubOut h 203 3 [rv 31, Value.int a0, Value.int a1]
    rw [ivc a0, ivc a1]
    exact c_order hT G (i_rng a0) (i_rng a1)
theorem pv_204 : PV 204 1 0 := fun h hT G vs hv => by
  match vs, hv with
  | [], _ =>
    show PubOut h 204 1 [rv 31]
    exact c_tries hT G 
theorem pv_205 : PV 205 2 0 := fun h hT G vs hv => by
  match vs, hv with
  | [], _ =>
    show PubOut h 205 2 [rv 31]
    exact c_first hT G 
theorem pv_206 : PV 206 7 1 := fun h hT G vs hv => by
  match vs, hv with
  | [a0], _ =>
    show PubOut h 206 7 [rv 31, Value.int a0]
    rw [ivc a0]
    exact c_explore hT G (i_rng a0)
theorem pv_211 : PV 211 2 1 := fun h hT G vs hv => by
  match vs, hv with
  | [a0], _ =>
    show PubOut h 211 2 [rv 31, Value.int a0]
    rw [ivc a0]
    exact c_explored hT G (i_rng a0)
theorem pv_212 : PV 212 6 0 := fun h hT G vs hv => by
  match vs, hv with
  | [], _ =>
    show PubOut h 212 6 [rv 31]
    exact c_digest hT G 
theorem pv_213 : PV 213 3 0 := fun h hT G vs hv => by
  match vs, hv with
  | [], _ =>
    show PubOut h 213 3 [rv 31]
    exact c_clear hT G 
/-! BATON'S ANSWER IN THE CLASS -/
abbrev bI : Int × Int := (-2147483648, 2147483647)
def bxC (a b c e z : Int) : CT := (21, 0, [(2, 1, 0), (1, a, b), (1, c, e)], (1, z, z), [1, 28], [], [])
theorem bx1 : CV (bxC 0 599 (-1) 4 1) := chk_ok (cts := [bxC 0 599 (-1) 4 1]) (i := 0) (hds := []) (cm := []) (fuel := 400) rfl (fun j cc hj => absurd hj (by omega)) (by decide +kernel)
theorem bx2 : CV (bxC (-2147483648) (-1) (-2147483648) 2147483647 (-2)) := chk_ok (cts := [bxC (-2147483648) (-1) (-2147483648) 2147483647 (-2)]) (i := 0) (hds := []) (cm := []) (fuel := 400) rfl (fun j cc hj => absurd hj (by omega)) (by decide +kernel)
theorem bx3 : CV (bxC 600 2147483647 (-2147483648) 2147483647 (-2)) := chk_ok (cts := [bxC 600 2147483647 (-2147483648) 2147483647 (-2)]) (i := 0) (hds := []) (cm := []) (fuel := 400) rfl (fun j cc hj => absurd hj (by omega)) (by decide +kernel)
theorem bx4 : CV (bxC 0 599 (-2147483648) (-2) (-2)) := chk_ok (cts := [bxC 0 599 (-2147483648) (-2) (-2)]) (i := 0) (hds := []) (cm := []) (fuel := 400) rfl (fun j cc hj => absurd hj (by omega)) (by decide +kernel)
theorem bx5 : CV (bxC 0 599 5 2147483647 (-2)) := chk_ok (cts := [bxC 0 599 5 2147483647 (-2)]) (i := 0) (hds := []) (cm := []) (fuel := 400) rfl (fun j cc hj => absurd hj (by omega)) (by decide +kernel)
def batV (a b : Int) : Int := if 0 ≤ a ∧ a ≤ 599 ∧ -1 ≤ b ∧ b ≤ 4 then 1 else -2
theorem bx_use {p q s e z : Int} (C : CV (bxC p q s e z)) {h : Hp} (hT : TInv h) {a b : Int32} (ha : p ≤ a.toInt ∧ a.toInt ≤ q) (hb : s ≤ b.toInt ∧ b.toInt ≤ e) : ∃ y h', sm_ms[21]? = some y ∧ (fl_args [.ref 0, .int a, .int b]).length ≤ y.2.2.1 ∧ Ev 0 21 (0, fl_enter y.2.2.1 [.ref 0, .int a, .int b], [], h, fl_tot) (some (iv z), h', fl_tot) ∧ TInv h' ∧ Fr [1, 28] h h' := by
  obtain ⟨y, y1, y2, v, h', g1, g2, g3, g4, -⟩ := C [.ref 0, .int a, .int b] h hT ⟨_, _, rfl, ⟨0, rfl, by decide +kernel⟩, _, _, rfl, ⟨a, rfl, ha⟩, _, _, rfl, ⟨b, rfl, hb⟩, rfl⟩ (fun p hp => by cases hp)
  have hv : v = some (iv z) := by
    have g5 : (if (1 : Nat) = 9 then v = none else ∃ w, v = some w ∧ valOK (1, z, z) w) := g3
    rw [if_neg (by decide)] at g5
    obtain ⟨w, rfl, x, rfl, x1, x2⟩ := g5
    have : x.toInt = z := by
      have x1' : z ≤ x.toInt := x1
      have x2' : x.toInt ≤ z := x2
      omega
    rw [ivc x, this]
  rw [hv] at g1
  exact ⟨y, h', y1, y2, g1, g2, g4⟩
theorem bx_all {h : Hp} (hT : TInv h) (a b : Int32) : ∃ y h', sm_ms[21]? = some y ∧ (fl_args [.ref 0, .int a, .int b]).length ≤ y.2.2.1 ∧ Ev 0 21 (0, fl_enter y.2.2.1 [.ref 0, .int a, .int b], [], h, fl_tot) (some (iv (batV a.toInt b.toInt)), h', fl_tot) ∧ TInv h' ∧ Fr [1, 28] h h' := by
  have ra := i_rng a
  have rb := i_rng b
  unfold batV
  by_cases h1 : a.toInt ≤ -1
  · rw [if_neg (by omega)]
    exact bx_use bx2 hT ⟨ra.1, h1⟩ rb
  · by_cases h2 : 600 ≤ a.toInt
    · rw [if_neg (by omega)]
      exact bx_use bx3 hT ⟨h2, ra.2⟩ rb
    · by_cases h3 : b.toInt ≤ -2
      · rw [if_neg (by omega)]
        exact bx_use bx4 hT (by omega) ⟨rb.1, h3⟩
      · by_cases h4 : 5 ≤ b.toInt
        · rw [if_neg (by omega)]
          exact bx_use bx5 hT (by omega) ⟨h4, rb.2⟩
        · rw [if_pos (by omega)]
          exact bx_use bx1 hT (by omega) (by omega)
theorem lcs_0 {L : Nat} {xs : Nat → Int32} {h : Hp} (I : LwI L xs h) {i : Int32} (B : LwB L i) : ∃ h', LwI L xs h' ∧ ∀ d r, 20 ≤ d → Ev d 214 (816, lwL i, [], h', fl_tot) r → Ev d 214 (144, lwL i, [], h, fl_tot) r :=
  lc_two (j := 3) (k := 3) (mx := 11) (mm := 142) (nL := 4) (pc1 := 160) (nx1 := 163) (q1 := 164) (pc2 := 180) (nx2 := 183) (q2 := 184) (lg := false) (zz := 187) I B pv_142 (by decide +kernel) (by decide +kernel) (by decide +kernel) (by decide +kernel) (by decide +kernel) (by decide +kernel) (by decide +kernel) (by decide +kernel) (by decide +kernel) (by decide) (by decide +kernel) (by decide +kernel) (by decide +kernel)
theorem lcs_1 {L : Nat} {xs : Nat → Int32} {h : Hp} (I : LwI L xs h) {i : Int32} (B : LwB L i) : ∃ h', LwI L xs h' ∧ ∀ d r, 20 ≤ d → Ev d 214 (816, lwL i, [], h', fl_tot) r → Ev d 214 (187, lwL i, [], h, fl_tot) r :=
  lc_two (j := 5) (k := 0) (mx := 14) (mm := 144) (nL := 1) (pc1 := 188) (nx1 := 191) (q1 := 192) (pc2 := 193) (nx2 := 196) (q2 := 197) (lg := false) (zz := 200) I B pv_144 (by decide +kernel) (by decide +kernel) (by decide +kernel) (by decide +kernel) (by decide +kernel) (by decide +kernel) (by decide +kernel) (by decide +kernel) (by decide +kernel) (by decide) (by decide +kernel) (by decide +kernel) (by decide +kernel)
theorem lcs_2 {L : Nat} {xs : Nat → Int32} {h : Hp} (I : LwI L xs h) {i : Int32} (B : LwB L i) : ∃ h', LwI L xs h' ∧ ∀ d r, 20 ≤ d → Ev d 214 (816, lwL i, [], h', fl_tot) r → Ev d 214 (200, lwL i, [], h, fl_tot) r :=
  lc_two (j := 10) (k := 5) (mx := 16) (mm := 145) (nL := 7) (pc1 := 226) (nx1 := 229) (q1 := 230) (pc2 := 256) (nx2 := 259) (q2 := 260) (lg := false) (zz := 263) I B pv_145 (by decide +kernel) (by decide +kernel) (by decide +kernel) (by decide +kernel) (by decide +kernel) (by decide +kernel) (by decide +kernel) (by decide +kernel) (by decide +kernel) (by decide) (by decide +kernel) (by decide +kernel) (by decide +kernel)
theorem lcs_3 {L : Nat} {xs : Nat → Int32} {h : Hp} (I : LwI L xs h) {i : Int32} (B : LwB L i) : ∃ h', LwI L xs h' ∧ ∀ d r, 20 ≤ d → Ev d 214 (816, lwL i, [], h', fl_tot) r → Ev d 214 (263, lwL i, [], h, fl_tot) r := by
  obtain ⟨y, h1, y1, y2, g1, g2, g3⟩ := bx_all I.1 (xs (i.toNatClampNeg + (0 + 1))) (xs (i.toNatClampNeg + (1 + 1)))
  have I1 : LwI L xs h1 := Fr.lw rfl g3 g2 I
  obtain ⟨h2, u1, u2, u3⟩ := c_baton I1.1 I1.2.1 (i_rng (xs (i.toNatClampNeg + (0 + 1)))) (i_rng (xs (i.toNatClampNeg + (1 + 1))))
  have I2 : LwI L xs h2 := Nx.lw u2 u3 I1
  rw [← ivc, ← ivc] at u1
  refine ⟨h2, I2, fun d r hd e => ?_⟩
  obtain ⟨d, rfl⟩ : ∃ d', d = d' + 1 := ⟨d - 1, by omega⟩
  have e1 : Ev (d + 1) 214 (291, lwL i, [iv (batV (xs (i.toNatClampNeg + (0 + 1))).toInt (xs (i.toNatClampNeg + (1 + 1))).toInt), iv (batV (xs (i.toNatClampNeg + (0 + 1))).toInt (xs (i.toNatClampNeg + (1 + 1))).toInt)], h2, fl_tot) r := by
    refine Ev.step (q := (7, [0, 816], 294)) (c' := (816, lwL i, [], h2, fl_tot)) (by dsimp only; decide +kernel) ?_ e
    unfold iv
    simp [fl_step, fl_cmp]
  have hms : ∃ y2, sm_ms[149]? = some y2 ∧ y2.2.2.1 = 3 := ⟨_, rfl, rfl⟩
  obtain ⟨y2', hy2, hl2⟩ := hms
  have e2 := lc_call (xs := xs) (h := h1) (i := i) (pc := 288) (m := 149) (k := 2) (r := xc 31) (rest := [iv (batV (xs (i.toNatClampNeg + (0 + 1))).toInt (xs (i.toNatClampNeg + (1 + 1))).toInt)]) (nx := 291) (by decide +kernel) (by decide +kernel) (Nat.le_of_ble_eq_true rfl) hy2 (by rw [hl2]; exact Nat.le_of_ble_eq_true rfl) (by rw [hl2]; exact u1 d (by omega)) e1
  have e3 := lc_walk_ok I1 B 60 277 [] 288 _ [iv (batV (xs (i.toNatClampNeg + (0 + 1))).toInt (xs (i.toNatClampNeg + (1 + 1))).toInt)] (show lc_walk 60 277 [] = some (288, lwA 2 (xc 31 : Nat)) by decide +kernel) (d + 1) r e2
  have e4 := lc_call (xs := xs) (h := h) (i := i) (pc := 274) (m := 21) (k := 2) (r := 0) (rest := []) (nx := 277) (by decide +kernel) (by decide +kernel) (by decide) y1 y2 (g1.mono (by omega)) e3
  exact lc_walk_ok I B 60 263 [] 274 _ [] (show lc_walk 60 263 [] = some (274, lwA 2 (0 : Nat)) by decide +kernel) (d + 1) r e4
theorem lcs_4 {L : Nat} {xs : Nat → Int32} {h : Hp} (I : LwI L xs h) {i : Int32} (B : LwB L i) : ∃ h', LwI L xs h' ∧ ∀ d r, 20 ≤ d → Ev d 214 (816, lwL i, [], h', fl_tot) r → Ev d 214 (296, lwL i, [], h, fl_tot) r :=
  lc_two (j := 13) (k := 3) (mx := 22) (mm := 150) (nL := 4) (pc1 := 312) (nx1 := 315) (q1 := 316) (pc2 := 332) (nx2 := 335) (q2 := 336) (lg := false) (zz := 339) I B pv_150 (by decide +kernel) (by decide +kernel) (by decide +kernel) (by decide +kernel) (by decide +kernel) (by decide +kernel) (by decide +kernel) (by decide +kernel) (by decide +kernel) (by decide) (by decide +kernel) (by decide +kernel) (by decide +kernel)
theorem lcs_5 {L : Nat} {xs : Nat → Int32} {h : Hp} (I : LwI L xs h) {i : Int32} (B : LwB L i) : ∃ h', LwI L xs h' ∧ ∀ d r, 20 ≤ d → Ev d 214 (816, lwL i, [], h', fl_tot) r → Ev d 214 (339, lwL i, [], h, fl_tot) r :=
  lc_two (j := 14) (k := 3) (mx := 24) (mm := 152) (nL := 4) (pc1 := 355) (nx1 := 358) (q1 := 359) (pc2 := 375) (nx2 := 378) (q2 := 379) (lg := false) (zz := 382) I B pv_152 (by decide +kernel) (by decide +kernel) (by decide +kernel) (by decide +kernel) (by decide +kernel) (by decide +kernel) (by decide +kernel) (by decide +kernel) (by decide +kernel) (by decide) (by decide +kernel) (by decide +kernel) (by decide +kernel)
theorem lcs_6 {L : Nat} {xs : Nat → Int32} {h : Hp} (I : LwI L xs h) {i : Int32} (B : LwB L i) : ∃ h', LwI L xs h' ∧ ∀ d r, 20 ≤ d → Ev d 214 (816, lwL i, [], h', fl_tot) r → Ev d 214 (382, lwL i, [], h, fl_tot) r :=
  lc_two (j := 73) (k := 0) (mx := 25) (mm := 153) (nL := 3) (pc1 := 383) (nx1 := 386) (q1 := 387) (pc2 := 388) (nx2 := 391) (q2 := 392) (lg := false) (zz := 395) I B pv_153 (by decide +kernel) (by decide +kernel) (by decide +kernel) (by decide +kernel) (by decide +kernel) (by decide +kernel) (by decide +kernel) (by decide +kernel) (by decide +kernel) (by decide) (by decide +kernel) (by decide +kernel) (by decide +kernel)
theorem lcs_7 {L : Nat} {xs : Nat → Int32} {h : Hp} (I : LwI L xs h) {i : Int32} (B : LwB L i) : ∃ h', LwI L xs h' ∧ ∀ d r, 20 ≤ d → Ev d 214 (816, lwL i, [], h', fl_tot) r → Ev d 214 (395, lwL i, [], h, fl_tot) r :=
  lc_two (j := 74) (k := 2) (mx := 81) (mm := 179) (nL := 3) (pc1 := 406) (nx1 := 409) (q1 := 410) (pc2 := 421) (nx2 := 424) (q2 := 425) (lg := false) (zz := 428) I B pv_179 (by decide +kernel) (by decide +kernel) (by decide +kernel) (by decide +kernel) (by decide +kernel) (by decide +kernel) (by decide +kernel) (by decide +kernel) (by decide +kernel) (by decide) (by decide +kernel) (by decide +kernel) (by decide +kernel)
theorem lcs_8 {L : Nat} {xs : Nat → Int32} {h : Hp} (I : LwI L xs h) {i : Int32} (B : LwB L i) : ∃ h', LwI L xs h' ∧ ∀ d r, 20 ≤ d → Ev d 214 (816, lwL i, [], h', fl_tot) r → Ev d 214 (428, lwL i, [], h, fl_tot) r :=
  lc_two (j := 75) (k := 2) (mx := 82) (mm := 180) (nL := 3) (pc1 := 439) (nx1 := 442) (q1 := 443) (pc2 := 454) (nx2 := 457) (q2 := 458) (lg := false) (zz := 461) I B pv_180 (by decide +kernel) (by decide +kernel) (by decide +kernel) (by decide +kernel) (by decide +kernel) (by decide +kernel) (by decide +kernel) (by decide +kernel) (by decide +kernel) (by decide) (by decide +kernel) (by decide +kernel) (by decide +kernel)
theorem lcs_9 {L : Nat} {xs : Nat → Int32} {h : Hp} (I : LwI L xs h) {i : Int32} (B : LwB L i) : ∃ h', LwI L xs h' ∧ ∀ d r, 20 ≤ d → Ev d 214 (816, lwL i, [], h', fl_tot) r → Ev d 214 (461, lwL i, [], h, fl_tot) r :=
  lc_two (j := 76) (k := 2) (mx := 83) (mm := 181) (nL := 3) (pc1 := 472) (nx1 := 475) (q1 := 476) (pc2 := 487) (nx2 := 490) (q2 := 491) (lg := false) (zz := 494) I B pv_181 (by decide +kernel) (by decide +kernel) (by decide +kernel) (by decide +kernel) (by decide +kernel) (by decide +kernel) (by decide +kernel) (by decide +kernel) (by decide +kernel) (by decide) (by decide +kernel) (by decide +kernel) (by decide +kernel)
theorem lcs_10 {L : Nat} {xs : Nat → Int32} {h : Hp} (I : LwI L xs h) {i : Int32} (B : LwB L i) : ∃ h', LwI L xs h' ∧ ∀ d r, 20 ≤ d → Ev d 214 (816, lwL i, [], h', fl_tot) r → Ev d 214 (494, lwL i, [], h, fl_tot) r :=
  lc_two (j := 77) (k := 2) (mx := 84) (mm := 182) (nL := 3) (pc1 := 505) (nx1 := 508) (q1 := 509) (pc2 := 520) (nx2 := 523) (q2 := 524) (lg := false) (zz := 527) I B pv_182 (by decide +kernel) (by decide +kernel) (by decide +kernel) (by decide +kernel) (by decide +kernel) (by decide +kernel) (by decide +kernel) (by decide +kernel) (by decide +kernel) (by decide) (by decide +kernel) (by decide +kernel) (by decide +kernel)
theorem lcs_11 {L : Nat} {xs : Nat → Int32} {h : Hp} (I : LwI L xs h) {i : Int32} (B : LwB L i) : ∃ h', LwI L xs h' ∧ ∀ d r, 20 ≤ d → Ev d 214 (816, lwL i, [], h', fl_tot) r → Ev d 214 (527, lwL i, [], h, fl_tot) r :=
  lc_two (j := 80) (k := 1) (mx := 85) (mm := 183) (nL := 4) (pc1 := 533) (nx1 := 536) (q1 := 537) (pc2 := 543) (nx2 := 546) (q2 := 547) (lg := false) (zz := 550) I B pv_183 (by decide +kernel) (by decide +kernel) (by decide +kernel) (by decide +kernel) (by decide +kernel) (by decide +kernel) (by decide +kernel) (by decide +kernel) (by decide +kernel) (by decide) (by decide +kernel) (by decide +kernel) (by decide +kernel)
theorem lcs_12 {L : Nat} {xs : Nat → Int32} {h : Hp} (I : LwI L xs h) {i : Int32} (B : LwB L i) : ∃ h', LwI L xs h' ∧ ∀ d r, 20 ≤ d → Ev d 214 (816, lwL i, [], h', fl_tot) r → Ev d 214 (550, lwL i, [], h, fl_tot) r :=
  lc_two (j := 83) (k := 1) (mx := 88) (mm := 184) (nL := 2) (pc1 := 556) (nx1 := 559) (q1 := 560) (pc2 := 566) (nx2 := 569) (q2 := 570) (lg := false) (zz := 573) I B pv_184 (by decide +kernel) (by decide +kernel) (by decide +kernel) (by decide +kernel) (by decide +kernel) (by decide +kernel) (by decide +kernel) (by decide +kernel) (by decide +kernel) (by decide) (by decide +kernel) (by decide +kernel) (by decide +kernel)
theorem lcs_13 {L : Nat} {xs : Nat → Int32} {h : Hp} (I : LwI L xs h) {i : Int32} (B : LwB L i) : ∃ h', LwI L xs h' ∧ ∀ d r, 20 ≤ d → Ev d 214 (816, lwL i, [], h', fl_tot) r → Ev d 214 (573, lwL i, [], h, fl_tot) r :=
  lc_two (j := 90) (k := 3) (mx := 91) (mm := 186) (nL := 4) (pc1 := 589) (nx1 := 592) (q1 := 593) (pc2 := 609) (nx2 := 612) (q2 := 613) (lg := false) (zz := 616) I B pv_186 (by decide +kernel) (by decide +kernel) (by decide +kernel) (by decide +kernel) (by decide +kernel) (by decide +kernel) (by decide +kernel) (by decide +kernel) (by decide +kernel) (by decide) (by decide +kernel) (by decide +kernel) (by decide +kernel)
theorem lcs_14 {L : Nat} {xs : Nat → Int32} {h : Hp} (I : LwI L xs h) {i : Int32} (B : LwB L i) : ∃ h', LwI L xs h' ∧ ∀ d r, 20 ≤ d → Ev d 214 (816, lwL i, [], h', fl_tot) r → Ev d 214 (616, lwL i, [], h, fl_tot) r :=
  lc_two (j := 91) (k := 0) (mx := 98) (mm := 190) (nL := 1) (pc1 := 617) (nx1 := 620) (q1 := 621) (pc2 := 622) (nx2 := 625) (q2 := 626) (lg := false) (zz := 629) I B pv_190 (by decide +kernel) (by decide +kernel) (by decide +kernel) (by decide +kernel) (by decide +kernel) (by decide +kernel) (by decide +kernel) (by decide +kernel) (by decide +kernel) (by decide) (by decide +kernel) (by decide +kernel) (by decide +kernel)
theorem lcs_15 {L : Nat} {xs : Nat → Int32} {h : Hp} (I : LwI L xs h) {i : Int32} (B : LwB L i) : ∃ h', LwI L xs h' ∧ ∀ d r, 20 ≤ d → Ev d 214 (816, lwL i, [], h', fl_tot) r → Ev d 214 (629, lwL i, [], h, fl_tot) r :=
  lc_two (j := 96) (k := 2) (mx := 99) (mm := 191) (nL := 5) (pc1 := 640) (nx1 := 643) (q1 := 644) (pc2 := 655) (nx2 := 658) (q2 := 659) (lg := false) (zz := 662) I B pv_191 (by decide +kernel) (by decide +kernel) (by decide +kernel) (by decide +kernel) (by decide +kernel) (by decide +kernel) (by decide +kernel) (by decide +kernel) (by decide +kernel) (by decide) (by decide +kernel) (by decide +kernel) (by decide +kernel)
theorem lcs_16 {L : Nat} {xs : Nat → Int32} {h : Hp} (I : LwI L xs h) {i : Int32} (B : LwB L i) : ∃ h', LwI L xs h' ∧ ∀ d r, 20 ≤ d → Ev d 214 (816, lwL i, [], h', fl_tot) r → Ev d 214 (662, lwL i, [], h, fl_tot) r :=
  lc_two (j := 129) (k := 1) (mx := 104) (mm := 192) (nL := 2) (pc1 := 668) (nx1 := 671) (q1 := 672) (pc2 := 678) (nx2 := 681) (q2 := 682) (lg := false) (zz := 685) I B pv_192 (by decide +kernel) (by decide +kernel) (by decide +kernel) (by decide +kernel) (by decide +kernel) (by decide +kernel) (by decide +kernel) (by decide +kernel) (by decide +kernel) (by decide) (by decide +kernel) (by decide +kernel) (by decide +kernel)
theorem lcs_17 {L : Nat} {xs : Nat → Int32} {h : Hp} (I : LwI L xs h) {i : Int32} (B : LwB L i) : ∃ h', LwI L xs h' ∧ ∀ d r, 20 ≤ d → Ev d 214 (816, lwL i, [], h', fl_tot) r → Ev d 214 (685, lwL i, [], h, fl_tot) r :=
  lc_two (j := 131) (k := 2) (mx := 125) (mm := 203) (nL := 3) (pc1 := 696) (nx1 := 699) (q1 := 700) (pc2 := 711) (nx2 := 714) (q2 := 715) (lg := false) (zz := 718) I B pv_203 (by decide +kernel) (by decide +kernel) (by decide +kernel) (by decide +kernel) (by decide +kernel) (by decide +kernel) (by decide +kernel) (by decide +kernel) (by decide +kernel) (by decide) (by decide +kernel) (by decide +kernel) (by decide +kernel)
theorem lcs_18 {L : Nat} {xs : Nat → Int32} {h : Hp} (I : LwI L xs h) {i : Int32} (B : LwB L i) : ∃ h', LwI L xs h' ∧ ∀ d r, 20 ≤ d → Ev d 214 (816, lwL i, [], h', fl_tot) r → Ev d 214 (718, lwL i, [], h, fl_tot) r :=
  lc_two (j := 132) (k := 0) (mx := 127) (mm := 204) (nL := 1) (pc1 := 719) (nx1 := 722) (q1 := 723) (pc2 := 724) (nx2 := 727) (q2 := 728) (lg := false) (zz := 731) I B pv_204 (by decide +kernel) (by decide +kernel) (by decide +kernel) (by decide +kernel) (by decide +kernel) (by decide +kernel) (by decide +kernel) (by decide +kernel) (by decide +kernel) (by decide) (by decide +kernel) (by decide +kernel) (by decide +kernel)
theorem lcs_19 {L : Nat} {xs : Nat → Int32} {h : Hp} (I : LwI L xs h) {i : Int32} (B : LwB L i) : ∃ h', LwI L xs h' ∧ ∀ d r, 20 ≤ d → Ev d 214 (816, lwL i, [], h', fl_tot) r → Ev d 214 (731, lwL i, [], h, fl_tot) r :=
  lc_two (j := 133) (k := 0) (mx := 128) (mm := 205) (nL := 2) (pc1 := 732) (nx1 := 735) (q1 := 736) (pc2 := 737) (nx2 := 740) (q2 := 741) (lg := false) (zz := 744) I B pv_205 (by decide +kernel) (by decide +kernel) (by decide +kernel) (by decide +kernel) (by decide +kernel) (by decide +kernel) (by decide +kernel) (by decide +kernel) (by decide +kernel) (by decide) (by decide +kernel) (by decide +kernel) (by decide +kernel)
theorem lcs_20 {L : Nat} {xs : Nat → Int32} {h : Hp} (I : LwI L xs h) {i : Int32} (B : LwB L i) : ∃ h', LwI L xs h' ∧ ∀ d r, 20 ≤ d → Ev d 214 (816, lwL i, [], h', fl_tot) r → Ev d 214 (744, lwL i, [], h, fl_tot) r :=
  lc_two (j := 142) (k := 1) (mx := 129) (mm := 206) (nL := 7) (pc1 := 750) (nx1 := 753) (q1 := 754) (pc2 := 760) (nx2 := 763) (q2 := 764) (lg := false) (zz := 767) I B pv_206 (by decide +kernel) (by decide +kernel) (by decide +kernel) (by decide +kernel) (by decide +kernel) (by decide +kernel) (by decide +kernel) (by decide +kernel) (by decide +kernel) (by decide) (by decide +kernel) (by decide +kernel) (by decide +kernel)
theorem lcs_21 {L : Nat} {xs : Nat → Int32} {h : Hp} (I : LwI L xs h) {i : Int32} (B : LwB L i) : ∃ h', LwI L xs h' ∧ ∀ d r, 20 ≤ d → Ev d 214 (816, lwL i, [], h', fl_tot) r → Ev d 214 (767, lwL i, [], h, fl_tot) r :=
  lc_two (j := 143) (k := 1) (mx := 136) (mm := 211) (nL := 2) (pc1 := 773) (nx1 := 776) (q1 := 777) (pc2 := 783) (nx2 := 786) (q2 := 787) (lg := false) (zz := 790) I B pv_211 (by decide +kernel) (by decide +kernel) (by decide +kernel) (by decide +kernel) (by decide +kernel) (by decide +kernel) (by decide +kernel) (by decide +kernel) (by decide +kernel) (by decide) (by decide +kernel) (by decide +kernel) (by decide +kernel)
theorem lcs_22 {L : Nat} {xs : Nat → Int32} {h : Hp} (I : LwI L xs h) {i : Int32} (B : LwB L i) : ∃ h', LwI L xs h' ∧ ∀ d r, 20 ≤ d → Ev d 214 (816, lwL i, [], h', fl_tot) r → Ev d 214 (790, lwL i, [], h, fl_tot) r :=
  lc_two (j := 146) (k := 0) (mx := 137) (mm := 212) (nL := 6) (pc1 := 791) (nx1 := 794) (q1 := 795) (pc2 := 796) (nx2 := 799) (q2 := 800) (lg := true) (zz := 803) I B pv_212 (by decide +kernel) (by decide +kernel) (by decide +kernel) (by decide +kernel) (by decide +kernel) (by decide +kernel) (by decide +kernel) (by decide +kernel) (by decide +kernel) (by decide) (by decide +kernel) (by decide +kernel) (by decide +kernel)
theorem lcs_23 {L : Nat} {xs : Nat → Int32} {h : Hp} (I : LwI L xs h) {i : Int32} (B : LwB L i) : ∃ h', LwI L xs h' ∧ ∀ d r, 20 ≤ d → Ev d 214 (816, lwL i, [], h', fl_tot) r → Ev d 214 (803, lwL i, [], h, fl_tot) r :=
  lc_two (j := 147) (k := 0) (mx := 140) (mm := 213) (nL := 3) (pc1 := 804) (nx1 := 807) (q1 := 808) (pc2 := 809) (nx2 := 812) (q2 := 813) (lg := false) (zz := 816) I B pv_213 (by decide +kernel) (by decide +kernel) (by decide +kernel) (by decide +kernel) (by decide +kernel) (by decide +kernel) (by decide +kernel) (by decide +kernel) (by decide +kernel) (by decide) (by decide +kernel) (by decide +kernel) (by decide +kernel)
/-! THE LOOP -/
def lcT : List Int := [816, 144, 187, 200, 263, 296, 339, 382, 395, 428, 461, 494, 527, 550, 573, 616, 629, 662, 685, 718, 731, 744, 767, 790, 803]
theorem lc_head {L : Nat} {xs : Nat → Int32} {h : Hp} (I : LwI L xs h) (hL : L ≤ 3072) {i : Int32} (h0 : 0 ≤ i.toInt) (h1 : i.toInt ≤ L + 6) :
    (L < i.toInt + 6 ∧ ∀ d, Ev d 214 (18, lwL i, [], h, fl_tot) (some (.int 1), h, fl_tot)) ∨ (LwB L i ∧ ∃ t ∈ lcT, ∀ d r, Ev d 214 (t.toNat, lwL i, [], h, fl_tot) r → Ev d 214 (18, lwL i, [], h, fl_tot) r) := by
  have hlen := lc_len I hL
  have eL : (Int32.ofNat L).toInt = L := by
    show (Int32.ofInt (L : Int)).toInt = L
    exact ofInt_toInt (by omega) (by omega)
  have e6 : (Int32.ofNat L - Int32.ofInt 6).toInt = L - 6 := by
    rw [Int32.toInt_sub, eL, ofInt_toInt (by omega) (by omega), i_bm (by omega) (by omega)]
  have pre : ∀ d r, Ev d 214 (24, lwL i, [.int (Int32.ofNat L - Int32.ofInt 6), .int i], h, fl_tot) r → Ev d 214 (18, lwL i, [], h, fl_tot) r := fun d r e => by
    refine Ev.step (q := (2, [3, 0], 19)) (c' := (19, lwL i, [.int i], h, fl_tot)) (by dsimp only; decide +kernel) rfl ?_
    refine Ev.step (q := (2, [0, 2], 20)) (c' := (20, lwL i, [.ref 1010, .int i], h, fl_tot)) (by dsimp only; decide +kernel) rfl ?_
    refine Ev.step (q := (17, [], 21)) (c' := (21, lwL i, [.int (Int32.ofNat L), .int i], h, fl_tot)) (by dsimp only; decide +kernel) ?_ ?_
    · show some (Sum.inl (21, lwL i, [Value.int (Int32.ofNat (fl_len h 1010)), .int i], h, fl_tot)) = _
      rw [hlen]
    refine Ev.step (q := (1, [6], 23)) (c' := (23, lwL i, [.int (Int32.ofInt 6), .int (Int32.ofNat L), .int i], h, fl_tot)) (by dsimp only; decide +kernel) rfl ?_
    exact Ev.step (q := (5, [1], 24)) (c' := (24, lwL i, [.int (Int32.ofNat L - Int32.ofInt 6), .int i], h, fl_tot)) (by dsimp only; decide +kernel) rfl e
  by_cases hc : Int32.ofNat L - Int32.ofInt 6 < i
  · refine Or.inl ⟨?_, fun d => pre d _ ?_⟩
    · have := Int32.lt_iff_toInt_lt.mp hc
      omega
    · refine Ev.step (q := (7, [4, 822], 27)) (c' := (822, lwL i, [], h, fl_tot)) (by dsimp only; decide +kernel) ?_ ?_
      · show some (Sum.inl ((if decide (Int32.ofNat L - Int32.ofInt 6 < i) = true then (822 : Int).toNat else 27), lwL i, [], h, fl_tot)) = _
        rw [decide_eq_true hc]
        rfl
      · refine Ev.step (q := (1, [1], 823)) (c' := (823, lwL i, [.int 1], h, fl_tot)) (by dsimp only; decide +kernel) rfl ?_
        exact Ev.ret (q := (22, [1], 824)) (c := (823, lwL i, [.int 1], h, fl_tot)) (by dsimp only; decide +kernel) rfl
  · have B : LwB L i := by
      refine ⟨h0, ?_, hL⟩
      have : ¬ (Int32.ofNat L - Int32.ofInt 6).toInt < i.toInt := fun z => hc (Int32.lt_iff_toInt_lt.mpr z)
      omega
    have hi := lc_clamp h0
    have hsw : ∃ t ∈ lcT, fl_step (40, [0, 816, 144, 187, 200, 263, 296, 339, 382, 395, 428, 461, 494, 527, 550, 573, 616, 629, 662, 685, 718, 731, 744, 767, 790, 803], 144) (33, lwL i, [.int (xs i.toNatClampNeg &&& Int32.ofInt 31)], h, fl_tot) = some (.inl (t.toNat, lwL i, [], h, fl_tot)) := by
      simp only [fl_step]
      split
      · exact ⟨_, by decide, rfl⟩
      · split
        · rename_i t ht
          exact ⟨t, List.mem_of_getElem? ht |> fun z => by unfold lcT; exact List.mem_cons_of_mem _ z, rfl⟩
        · exact ⟨_, by decide, rfl⟩
    obtain ⟨t, ht, hs⟩ := hsw
    refine Or.inr ⟨B, t, ht, fun d r e => pre d r ?_⟩
    refine Ev.step (q := (7, [4, 822], 27)) (c' := (27, lwL i, [], h, fl_tot)) (by dsimp only; decide +kernel) ?_ ?_
    · show some (Sum.inl ((if decide (Int32.ofNat L - Int32.ofInt 6 < i) = true then (822 : Int).toNat else 27), lwL i, [], h, fl_tot)) = _
      rw [decide_eq_false hc]
      rfl
    refine Ev.step (q := (2, [0, 2], 28)) (c' := (28, lwL i, [.ref 1010], h, fl_tot)) (by dsimp only; decide +kernel) rfl ?_
    refine Ev.step (q := (2, [3, 0], 29)) (c' := (29, lwL i, [.int i, .ref 1010], h, fl_tot)) (by dsimp only; decide +kernel) rfl ?_
    refine Ev.step (q := (11, [], 30)) (c' := (30, lwL i, [.int (xs i.toNatClampNeg)], h, fl_tot)) (by dsimp only; decide +kernel) ?_ ?_
    · have hin : fl_in i (fl_len h 1010) = true := by
        rw [hlen]
        exact (n_of h0 (by have := B.2.1; omega)).1
      show (if fl_isI fl_tot 1010 && fl_in i (fl_len h 1010) then some (Sum.inl (30, lwL i, [Value.int (h.1 1010 i.toNatClampNeg)], h, fl_tot)) else none) = _
      rw [hin, if_pos (show (fl_isI fl_tot 1010 && true) = true by decide), I.2.2.1]
    refine Ev.step (q := (1, [31], 32)) (c' := (32, lwL i, [.int (Int32.ofInt 31), .int (xs i.toNatClampNeg)], h, fl_tot)) (by dsimp only; decide +kernel) rfl ?_
    refine Ev.step (q := (5, [8], 33)) (c' := (33, lwL i, [.int (xs i.toNatClampNeg &&& Int32.ofInt 31)], h, fl_tot)) (by dsimp only; decide +kernel) rfl ?_
    exact Ev.step (q := (40, [0, 816, 144, 187, 200, 263, 296, 339, 382, 395, 428, 461, 494, 527, 550, 573, 616, 629, 662, 685, 718, 731, 744, 767, 790, 803], 144)) (by dsimp only; decide +kernel) hs e
theorem lc_case {L : Nat} {xs : Nat → Int32} {h : Hp} (I : LwI L xs h) {i : Int32} (B : LwB L i) {t : Int} (ht : t ∈ lcT) : ∃ h', LwI L xs h' ∧ ∀ d r, 20 ≤ d → Ev d 214 (816, lwL i, [], h', fl_tot) r → Ev d 214 (t.toNat, lwL i, [], h, fl_tot) r := by
  simp only [lcT, List.mem_cons, List.not_mem_nil, or_false] at ht
  rcases ht with rfl | rfl | rfl | rfl | rfl | rfl | rfl | rfl | rfl | rfl | rfl | rfl | rfl | rfl | rfl | rfl | rfl | rfl | rfl | rfl | rfl | rfl | rfl | rfl | rfl
  · exact ⟨h, I, fun d r _ e => e⟩
  · exact lcs_0 I B
  · exact lcs_1 I B
  · exact lcs_2 I B
  · exact lcs_3 I B
  · exact lcs_4 I B
  · exact lcs_5 I B
  · exact lcs_6 I B
  · exact lcs_7 I B
  · exact lcs_8 I B
  · exact lcs_9 I B
  · exact lcs_10 I B
  · exact lcs_11 I B
  · exact lcs_12 I B
  · exact lcs_13 I B
  · exact lcs_14 I B
  · exact lcs_15 I B
  · exact lcs_16 I B
  · exact lcs_17 I B
  · exact lcs_18 I B
  · exact lcs_19 I B
  · exact lcs_20 I B
  · exact lcs_21 I B
  · exact lcs_22 I B
  · exact lcs_23 I B
theorem lc_loop {L : Nat} {xs : Nat → Int32} (hL : L ≤ 3072) : ∀ (n : Nat) (i : Int32) (h : Hp), LwI L xs h → L + 6 - i.toInt < n → 0 ≤ i.toInt → i.toInt ≤ L + 6 → ∃ h', ∀ d, 20 ≤ d → Ev d 214 (18, lwL i, [], h, fl_tot) (some (.int 1), h', fl_tot) := by
  intro n
  induction n with
  | zero => intro i h I h1 h2 h3; omega
  | succ n ih =>
    intro i h I h1 h2 h3
    rcases lc_head I hL h2 h3 with ⟨-, K⟩ | ⟨B, t, ht, K⟩
    · exact ⟨h, fun d _ => K d⟩
    · obtain ⟨h2', I2, K2⟩ := lc_case I B ht
      have e6 := lc_add B (z := 6) (by omega) (by omega)
      have B2 := B.2.1
      obtain ⟨h', K3⟩ := ih (i + Int32.ofInt 6) h2' I2 (by omega) (by omega) (by omega)
      refine ⟨h', fun d hd => K d _ (K2 d _ hd ?_)⟩
      refine Ev.step (q := (4, [3, 6], 819)) (c' := (819, lwL (i + Int32.ofInt 6), [], h2', fl_tot)) (by dsimp only; decide +kernel) rfl ?_
      exact Ev.step (q := (8, [18], 822)) (c' := (18, lwL (i + Int32.ofInt 6), [], h2', fl_tot)) (by dsimp only; decide +kernel) rfl (K3 d hd)
/-! FROM THE START -/
theorem ct_ex : ∃ w c w2 c2, ct_a = some (false, w, c) ∧ c.2.1 = [some (.ref 1010), some (.ref 0), none, none] ∧ c.2.2.1 = [rv 31, rv 31] ∧ ct_b c.2.2.2.1 c.2.2.2.2 = some (false, w2, c2) ∧ c2.2.2.2.2 = 285 ∧ cmT c2.2.2.2.1 = true ∧ c2.2.1 = [some (rv 31), some (.int 0)] ∧ c2.2.2.1 = [] := by
  have h := ct_ok
  unfold ct_ck at h
  split at h
  · rename_i w c hc
    rw [Bool.and_eq_true] at h
    obtain ⟨h1, h2⟩ := h
    split at h1
    · rename_i a b x y e1 e2
      simp only [Bool.and_eq_true, decide_eq_true_eq] at h1
      obtain ⟨⟨⟨rfl, rfl⟩, rfl⟩, rfl⟩ := h1
      split at h2
      · rename_i w2 c2 hc2
        unfold ct_ckb at h2
        simp only [Bool.and_eq_true, decide_eq_true_eq] at h2
        obtain ⟨⟨⟨k1, k2⟩, k3⟩, k4⟩ := h2
        split at k3
        · rename_i a z e3
          simp only [Bool.and_eq_true, decide_eq_true_eq] at k3
          obtain ⟨rfl, rfl⟩ := k3
          exact ⟨w, c, w2, c2, hc, e1, e2, hc2, k1, k2, e3, List.isEmpty_iff.mp k4⟩
        · cases k3
      · cases h2
    · cases h1
  · cases h
theorem hp_far {g : Hp} {L : CL} (hc : cmT L = true) {r j : Nat} (hr : 31 ≤ ab_kd r) : (hpL g L).1 r j = g.1 r j := by
  unfold cmT at hc
  rw [Bool.and_eq_true] at hc
  rcases hpI_or (b := g.1) (r := r) (j := j) (l := L.2) with h | ⟨x, x1, x2, x3, x4⟩
  · exact h
  · exfalso
    have hE := List.all_eq_true.mp hc.2 x x1
    unfold cmE at hE
    rw [Bool.and_eq_true, x2, decide_eq_true_eq] at hE
    omega
theorem c_ini {h : Hp} (hT : TInv h) (V : RG h) : ∀ (n : Nat) (i : Int) (ls : List (Option Value)) (h1 : Hp), TInv h1 → Nx h h1 → RG h1 → 600 - i < n → (0 ≤ i ∧ i ≤ 600) → LVs [some (rv 31), some (iv i)] ls → ∃ h', (∀ d, 3 ≤ d → Ev d 141 (497, ls, [], h1, fl_tot) (none, h', fl_tot)) ∧ Nx h h' ∧ RG h' := by
  intro n
  induction n with
  | zero => intro i ls h1 hT1 N G q1 q2; omega
  | succ n ih =>
    intro i ls h1 hT1 N G q1 b_i hl
    rcases s141 hT1 b_i hl with ⟨f0, f1, T, K⟩ | ⟨g1, rfl, f0, f1, T, lv, Hl, K⟩
    · exact ⟨h1, fun d hd => K d (by omega), N, G⟩
    · obtain ⟨h', u1, u2, u3⟩ := ih (i + 1) lv _ T.1 (N.trans T) (G.fr ((Fq.refl (Ks := [41]) (fs := []) h1).put 41 i (-1) rfl) rfl) (by omega) (by omega) Hl
      exact ⟨h', fun d hd => K d _ (by omega) (u1 d hd), u2, u3⟩
theorem flat_law : FlatLaw := fun L xs hL => by
  obtain ⟨w, c, w2, c2, a1, a2, a3, a4, a5, a6, a7, a8⟩ := ct_ex
  have g0 : ∀ r j, r < 1000 → (fl_h0 (fl_g L xs)).1 r j = 0 ∧ (fl_h0 (fl_g L xs)).2 r j = none := fun r j hr => by
    unfold fl_h0
    refine ⟨?_, rfl⟩
    show (if 1000 ≤ r then _ else (0 : Int32)) = 0
    rw [if_neg (by omega)]
  have far : ∀ r j, 1000 ≤ r → (fl_h0 (fl_g L xs)).1 r j = fl_g L xs (r - 1000) j := fun r j hr => by
    show (if 1000 ≤ r then fl_g L xs (r - 1000) j else (0 : Int32)) = _
    rw [if_pos hr]
  generalize hg : fl_h0 (fl_g L xs) = g at *
  have G0 : cmG g ([], []) 0 := fun r j _ hr => g0 r j hr
  obtain ⟨G1, -, K1⟩ := cm_ok (g := g) 20000 10 214 12 (0, fl_enter 4 [.ref 1010], [], ([], []), 0) false w c a1 G0
  obtain ⟨e1, K1⟩ := K1 rfl
  obtain ⟨G2, -, K2⟩ := cm_ok (g := g) 20000 10 141 497 (0, fl_enter 2 [rv 31], [], c.2.2.2.1, c.2.2.2.2) false w2 c2 a4 G1
  obtain ⟨e2, K2⟩ := K2 rfl
  have T := cmT_ok (g := g) g0 a6
  have z4 : rd 31 4 (hpL g c2.2.2.2.1) = 0 := by
    show ((hpL g c2.2.2.2.1).1 (xc 31) 4).toInt = 0
    rw [hp_far a6 (by decide +kernel), (g0 (xc 31) 4 (by decide +kernel)).1]
    rfl
  have z13 : rd 31 13 (hpL g c2.2.2.2.1) = 0 := by
    show ((hpL g c2.2.2.2.1).1 (xc 31) 13).toInt = 0
    rw [hp_far a6 (by decide +kernel), (g0 (xc 31) 13 (by decide +kernel)).1]
    rfl
  have G : RG (hpL g c2.2.2.2.1) := RG.off (fun cl j q1 q2 => by omega) z13
  obtain ⟨h', u1, u2, u3⟩ := c_ini T G 601 0 [some (rv 31), some (.int 0)] _ T ⟨T, Rf.refl _⟩ G (by omega) (by omega) (LVs.self _)
  have I : LwI L xs h' := by
    refine ⟨u2.1, u3, fun j => ?_, ?_⟩
    · rw [u2.2.2 1010 (by decide +kernel), hp_far a6 (by decide +kernel), far 1010 j (by omega)]
      rfl
    · rw [u2.2.2 1011 (by decide +kernel), hp_far a6 (by decide +kernel), far 1011 0 (by omega)]
      rfl
  obtain ⟨h'', K3⟩ := lc_loop hL (L + 7) 0 h' I (by show (L : Int) + 6 - 0 < _; omega) (by decide) (by show (0 : Int) ≤ _; omega)
  have f1 : Ev 40 214 (rl g (0, fl_enter 4 [.ref 1010], [], ([], []), 0)) (some (.int 1), h'', fl_tot) := by
    refine K1 40 _ (by omega) ?_
    have ec : rl g c = (12, [some (.ref 1010), some (.ref 0), none, none], [rv 31, rv 31], hpL g c.2.2.2.1, c.2.2.2.2) := by
      unfold rl
      rw [e1, a2, a3]
    rw [ec]
    have f2 : Ev 39 141 (0, fl_enter 2 [rv 31], [], hpL g c.2.2.2.1, c.2.2.2.2) (none, h', fl_tot) := by
      refine K2 39 _ (by omega) ?_
      have ec2 : rl g c2 = (497, [some (rv 31), some (.int 0)], [], hpL g c2.2.2.2.1, fl_tot) := by
        unfold rl
        rw [e2, a5, a7, a8]
      rw [ec2]
      exact u1 39 (by omega)
    obtain ⟨y, hy, hl⟩ : ∃ y, sm_ms[141]? = some y ∧ y.2.2.1 = 2 := ⟨_, rfl, rfl⟩
    refine Ev.call (q := (20, [141, 0], 15)) (as := [rv 31]) (rest := [rv 31]) (m2 := 141) (nx := 15) (by dsimp only; decide +kernel) rfl hy (by rw [hl]; decide) (by rw [hl]; exact f2) ?_
    · refine Ev.step (q := (3, [2, 2], 16)) (c' := (16, [some (.ref 1010), some (.ref 0), some (rv 31), none], [], h', fl_tot)) (by dsimp only; decide +kernel) rfl ?_
      refine Ev.step (q := (1, [0], 17)) (c' := (17, [some (.ref 1010), some (.ref 0), some (rv 31), none], [.int 0], h', fl_tot)) (by dsimp only; decide +kernel) rfl ?_
      exact Ev.step (q := (3, [3, 0], 18)) (c' := (18, lwL 0, [], h', fl_tot)) (by dsimp only; decide +kernel) rfl (K3 40 (by omega))
  obtain ⟨f, hf⟩ := f1
  exact ⟨f, h'', hf⟩
