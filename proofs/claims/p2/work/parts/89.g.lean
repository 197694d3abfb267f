def tys_s141 : List TY := [(2, 31, 0), (1, 0, 600)]
def stys_s141 : List TY := []
theorem chk_s141 : sg_check ([(141, 497)], [], []) 141 497 tys_s141 stys_s141 [(2, (0, 0, 0, 0), (([(2, 1, 31), (1, 2, 0)], [], [(0, 0), (1, 0), (600, 600)], []), [(3, 0, (1, 2, 0), (1, 0, 600), 0)], [])),
 (0, (497, 0, 0, 0), (([(2, 1, 31), (1, 2, 1)], [], [(0, 0), (1, 0), (0, 599), (1, 0)], [(1, 31, 11, (2, 3, 41))]), [(2, 0, (1, 2, 0), (1, 0, 600), 0)], [(41, (1, 2, 0), (1, 0, -1))]))] = true := by decide +kernel
theorem s141 {h : Hp} (hT : TInv h) {ls : List (Option Value)} {i : Int} (b_i : 0 ≤ i ∧ i ≤ 600) (hl : LVs [some (rv 31), some (iv i)] ls) :
  ((600 ≤ i ∧ i ≤ 600) ∧ (600 ≤ i) ∧ Nx h h ∧ (∀ dd, 3 ≤ dd → Ev dd 141 (497, ls, [], h, fl_tot) (none, h, fl_tot))) ∨
  (∃ (g1 : Hp), (g1 = wr 41 i (-1) h) ∧ (0 ≤ i ∧ i ≤ 599) ∧ (i < 600) ∧ Nx h g1 ∧ (∃ ls', LVs [some (rv 31), some (iv (i + 1))] ls' ∧ ∀ dd rr, 3 ≤ dd → Ev dd 141 (497, ls', [], g1, fl_tot) rr → Ev dd 141 (497, ls, [], h, fl_tot) rr)) := by
  have H := seg chk_s141 (zs := [i]) (szs := []) hT (show HB tys_s141 [i] from ⟨b_i, trivial⟩) (show HB stys_s141 [] from trivial) hl
  rcases H with ⟨tq, hE, hF, k1, k2⟩ | ⟨tq, hE, hF, k1, ls', k2, k3⟩
  · exact Or.inl ⟨hE 2 (600, 600) rfl (by decide), hF.1, k1, k2⟩
  · exact Or.inr ⟨_, rfl, hE 2 (0, 599) rfl (by decide), hF.1, k1, ls', k2, k3⟩

set_option maxRecDepth 20000
/-! THE REFERENCE'S METHODS, AS THE LAW CALLS THEM -/
theorem ivc (a : Int32) : Value.int a = iv a.toInt := by unfold iv; rw [Int32.ofInt_toInt]
theorem pv_142 : PV 142 4 3 := fun h hT G vs hv => by
  match vs, hv with
  | [a0, a1, a2], _ =>
    show PubOut h 142 4 [rv 31, Value.int a0, Value.int a1, Value.int a2]
    rw [ivc a0, ivc a1, ivc a2]
    exact c_tray hT G (i_rng a0) (i_rng a1) (i_rng a2)
theorem pv_144 : PV 144 1 0 := fun h hT G vs hv => by
  match vs, hv with
  | [], _ =>
    show PubOut h 144 1 [rv 31]
    exact c_clerk hT G 
theorem pv_145 : PV 145 7 5 := fun h hT G vs hv => by
  match vs, hv with
  | [a0, a1, a2, a3, a4], _ =>
    show PubOut h 145 7 [rv 31, Value.int a0, Value.int a1, Value.int a2, Value.int a3, Value.int a4]
    rw [ivc a0, ivc a1, ivc a2, ivc a3, ivc a4]
    exact c_act hT G (i_rng a0) (i_rng a1) (i_rng a2) (i_rng a3) (i_rng a4)
theorem pv_149 : PV 149 3 2 := fun h hT G vs hv => by
  match vs, hv with
  | [a0, a1], _ =>
    show PubOut h 149 3 [rv 31, Value.int a0, Value.int a1]
    rw [ivc a0, ivc a1]
    obtain ⟨h', u1, u2, u3⟩ := c_baton hT G (i_rng a0) (i_rng a1)
    exact ⟨_, h', u1, u2, u3⟩
theorem pv_150 : PV 150 4 3 := fun h hT G vs hv => by
  match vs, hv with
  | [a0, a1, a2], _ =>
    show PubOut h 150 4 [rv 31, Value.int a0, Value.int a1, Value.int a2]
    rw [ivc a0, ivc a1, ivc a2]
    exact c_patience hT G (i_rng a0) (i_rng a1) (i_rng a2)
theorem pv_152 : PV 152 4 3 := fun h hT G vs hv => by
  match vs, hv with
  | [a0, a1, a2], _ =>
    show PubOut h 152 4 [rv 31, Value.int a0, Value.int a1, Value.int a2]
    rw [ivc a0, ivc a1, ivc a2]
    exact c_throwing hT G (i_rng a0) (i_rng a1) (i_rng a2)
theorem pv_153 : PV 153 3 0 := fun h hT G vs hv => by
  match vs, hv with
  | [], _ =>
    show PubOut h 153 3 [rv 31]
    obtain ⟨z, h', r1, r2, r3, r4, r5⟩ := c_run hT G.1
    exact ⟨_, h', fun d hd => r1 d (by omega), r2, r3.1, fun _ => r3⟩
theorem pv_179 : PV 179 3 2 := fun h hT G vs hv => by
  match vs, hv with
  | [a0, a1], _ =>
    show PubOut h 179 3 [rv 31, Value.int a0, Value.int a1]
    rw [ivc a0, ivc a1]
    exact c_answer hT G (i_rng a0) (i_rng a1)
theorem pv_180 : PV 180 3 2 := fun h hT G vs hv => by
  match vs, hv with
  | [a0, a1], _ =>
    show PubOut h 180 3 [rv 31, Value.int a0, Value.int a1]
    rw [ivc a0, ivc a1]
    exact c_outcome hT G (i_rng a0) (i_rng a1)
theorem pv_181 : PV 181 3 2 := fun h hT G vs hv => by
  match vs, hv with
  | [a0, a1], _ =>
    show PubOut h 181 3 [rv 31, Value.int a0, Value.int a1]
    rw [ivc a0, ivc a1]
    exact c_waited hT G (i_rng a0) (i_rng a1)
theorem pv_182 : PV 182 3 2 := fun h hT G vs hv => by
  match vs, hv with
  | [a0, a1], _ =>
    show PubOut h 182 3 [rv 31, Value.int a0, Value.int a1]
    rw [ivc a0, ivc a1]
    exact c_mark hT G (i_rng a0) (i_rng a1)
theorem pv_183 : PV 183 4 1 := fun h hT G vs hv => by
  match vs, hv with
  | [a0], _ =>
    show PubOut h 183 4 [rv 31, Value.int a0]
    rw [ivc a0]
    exact p_count hT G (i_rng a0)
theorem pv_184 : PV 184 2 1 := fun h hT G vs hv => by
  match vs, hv with
  | [a0], _ =>
    show PubOut h 184 2 [rv 31, Value.int a0]
    rw [ivc a0]
    exact p_size hT G (i_rng a0)
theorem pv_186 : PV 186 4 3 := fun h hT G vs hv => by
  match vs, hv with
  | [a0, a1, a2], _ =>
    show PubOut h 186 4 [rv 31, Value.int a0, Value.int a1, Value.int a2]
    rw [ivc a0, ivc a1, ivc a2]
    exact c_card hT G (i_rng a0) (i_rng a1) (i_rng a2)
theorem pv_190 : PV 190 1 0 := fun h hT G vs hv => by
  match vs, hv with
  | [], _ =>
    show PubOut h 190 1 [rv 31]
    exact c_asked hT G 
theorem pv_191 : PV 191 5 2 := fun h hT G vs hv => by
  match vs, hv with
  | [a0, a1], _ =>
    show PubOut h 191 5 [rv 31, Value.int a0, Value.int a1]
    rw [ivc a0, ivc a1]
    exact c_about hT G (i_rng a0) (i_rng a1)
theorem pv_192 : PV 192 2 1 := fun h hT G vs hv => by
  match vs, hv with
  | [a0], _ =>
    show PubOut h 192 2 [rv 31, Value.int a0]
    rw [ivc a0]
    exact c_fits hT G (i_rng a0)
theorem pv_203 : PV 203 3 2 := fun h hT G vs hv => by
  match vs, hv with
  | [a0, a1], _ =>
    show PubOut h 203 3 [rv 31, Value.int a0, Value.int a1]
    rw [ivc a0, ivc a1]
    exact c_order hT G (i_rng a0) (i_rng a1)
theorem pv_204 : PV 204 1 0 := fun h hT G vs hv => by
  match vs, hv with
  | [], _ =>
    show PubOut h 204 1 [rv 31]
    exact c_tries hT G 
theorem pv_205 : PV 205 2 0 := fun h hT G vs hv => by
  match vs, hv with
  | [], _ =>
    show PubOut h 205 2 [rv 31]
    exact c_first hT G 
theorem pv_206 : PV 206 7 1 := fun h hT G vs hv => by
  match vs, hv with
  | [a0], _ =>
    show PubOut h 206 7 [rv 31, Value.int a0]
    rw [ivc a0]
    exact c_explore hT G (i_rng a0)
theorem pv_211 : PV 211 2 1 := fun h hT G vs hv => by
  match vs, hv with
  | [a0], _ =>
    show PubOut h 211 2 [rv 31, Value.int a0]
    rw [ivc a0]
    exact c_explored hT G (i_rng a0)
theorem pv_212 : PV 212 6 0 := fun h hT G vs hv => by
  match vs, hv with
  | [], _ =>
    show PubOut h 212 6 [rv 31]
    exact c_digest hT G 
theorem pv_213 : PV 213 3 0 := fun h hT G vs hv => by
  match vs, hv with
  | [], _ =>
    show PubOut h 213 3 [rv 31]
    exact c_clear hT G 
theorem lcs_0 {L : Nat} {xs : Nat → Int32} {h : Hp} (I : LwI L xs h) (Q : PEk 2 0 h) {i : Int32} (B : LwB L i) : ∃ h', LwI L xs h' ∧ PEk 2 0 h' ∧ ∀ d r, 20 ≤ d → Ev d 214 (816, lwL i, [], h', fl_tot) r → Ev d 214 (144, lwL i, [], h, fl_tot) r := by
  obtain ⟨w, h1, X, fr1, I1, hw, K1⟩ := lc_xe (lg := false) (pc := 160) (nx := 163) (m := 11) (k := 3) (j := 3) I i (by decide +kernel) (by decide +kernel) (by decide +kernel)
  obtain ⟨v, h2, M, fr2, I2, hv, K2⟩ := lc_me (lg := false) (pc := 179) (nx := 182) (m := 142) (k := 3) (nL := 4) I1 i pv_142 (by decide +kernel) (by decide +kernel) (by decide) (by decide +kernel) (by decide +kernel)
  obtain ⟨hx, xe, xq⟩ := x_tray I.1 (xs (i.toNatClampNeg + (0 + 1))) (xs (i.toNatClampNeg + (1 + 1))) (xs (i.toNatClampNeg + (2 + 1)))
  obtain ⟨ew, eh⟩ := X.eq (nL := 4) (by decide +kernel) xe
  subst eh
  subst ew
  obtain ⟨hm, me, mq⟩ := m_tray I1.1 (xs (i.toNatClampNeg + (0 + 1))) (xs (i.toNatClampNeg + (1 + 1))) (xs (i.toNatClampNeg + (2 + 1)))
  obtain ⟨ev, eg⟩ := M.eq (nL := 4) (by decide +kernel) (me 20 (by omega))
  subst eg
  subst ev
  have e31 : h1.1 (xc 31) = h.1 (xc 31) := fr1 (xc 31) (by rw [kd31]; omega)
  have eQ : (h.1 (xc 2) 2).toInt = rd 31 0 h1 := by
    show _ = (h1.1 (xc 31) 0).toInt
    rw [e31]
    exact Q
  have Q2 : PEk 2 0 h2 := by
    show (h2.1 (xc 2) 2).toInt = rd 31 0 h2
    rw [fr2.2 (xc 2) (by rw [kd2]; omega), xq, mq, eQ]
  rw [eQ] at K1
  refine ⟨h2, I2, Q2, fun d r hd e => ?_⟩
  have e1 : Ev d 214 (182, lwL i, [iv (trayV (xs (i.toNatClampNeg + (0 + 1))).toInt (xs (i.toNatClampNeg + (1 + 1))).toInt (xs (i.toNatClampNeg + (2 + 1))).toInt (rd 31 0 h1)), iv (trayV (xs (i.toNatClampNeg + (0 + 1))).toInt (xs (i.toNatClampNeg + (1 + 1))).toInt (xs (i.toNatClampNeg + (2 + 1))).toInt (rd 31 0 h1))], h2, fl_tot) r := by
    refine Ev.step (q := (7, [0, 816], 185)) (c' := (816, lwL i, [], h2, fl_tot)) (by dsimp only; decide +kernel) ?_ e
    unfold iv
    simp [fl_step, fl_cmp]
  have e2 := lc_walk_ok I1 B 60 163 [] 179 _ [iv (trayV (xs (i.toNatClampNeg + (0 + 1))).toInt (xs (i.toNatClampNeg + (1 + 1))).toInt (xs (i.toNatClampNeg + (2 + 1))).toInt (rd 31 0 h1))] (show lc_walk 60 163 [] = some (179, lwA 3 (xc 31 : Nat)) by decide +kernel) d r (K2 d r [iv (trayV (xs (i.toNatClampNeg + (0 + 1))).toInt (xs (i.toNatClampNeg + (1 + 1))).toInt (xs (i.toNatClampNeg + (2 + 1))).toInt (rd 31 0 h1))] hd (Nat.le_of_ble_eq_true rfl) e1)
  exact lc_walk_ok I B 60 144 [] 160 _ [] (show lc_walk 60 144 [] = some (160, lwA 3 (0 : Nat)) by decide +kernel) d r (K1 d r [] hd (by decide) e2)
theorem lcs_1 {L : Nat} {xs : Nat → Int32} {h : Hp} (I : LwI L xs h) (Q : PEk 2 0 h) {i : Int32} (B : LwB L i) : ∃ h', LwI L xs h' ∧ PEk 2 0 h' ∧ ∀ d r, 20 ≤ d → Ev d 214 (816, lwL i, [], h', fl_tot) r → Ev d 214 (187, lwL i, [], h, fl_tot) r :=
  lc_twoE (j := 5) (k := 0) (mx := 14) (mm := 144) (nL := 1) (pc1 := 188) (nx1 := 191) (q1 := 192) (pc2 := 193) (nx2 := 196) (q2 := 197) (lg := false) (zz := 200) I Q B [14, 15] [144] pv_144 (by decide +kernel) (by decide +kernel) (by decide +kernel) (by decide +kernel) (by decide +kernel) (by decide +kernel) (by decide +kernel) (by decide +kernel) (by decide +kernel) (by decide) (by decide +kernel) (by decide +kernel) (by decide +kernel) (by decide +kernel) (by decide +kernel)
theorem lcs_2 {L : Nat} {xs : Nat → Int32} {h : Hp} (I : LwI L xs h) (Q : PEk 2 0 h) {i : Int32} (B : LwB L i) : ∃ h', LwI L xs h' ∧ PEk 2 0 h' ∧ ∀ d r, 20 ≤ d → Ev d 214 (816, lwL i, [], h', fl_tot) r → Ev d 214 (200, lwL i, [], h, fl_tot) r :=
  lc_twoE (j := 10) (k := 5) (mx := 16) (mm := 145) (nL := 7) (pc1 := 226) (nx1 := 229) (q1 := 230) (pc2 := 256) (nx2 := 259) (q2 := 260) (lg := false) (zz := 263) I Q B [16, 17, 18, 19, 20] [143, 145, 146, 147, 148] pv_145 (by decide +kernel) (by decide +kernel) (by decide +kernel) (by decide +kernel) (by decide +kernel) (by decide +kernel) (by decide +kernel) (by decide +kernel) (by decide +kernel) (by decide) (by decide +kernel) (by decide +kernel) (by decide +kernel) (by decide +kernel) (by decide +kernel)
theorem lcs_3 {L : Nat} {xs : Nat → Int32} {h : Hp} (I : LwI L xs h) (Q : PEk 2 0 h) {i : Int32} (B : LwB L i) : ∃ h', LwI L xs h' ∧ PEk 2 0 h' ∧ ∀ d r, 20 ≤ d → Ev d 214 (816, lwL i, [], h', fl_tot) r → Ev d 214 (263, lwL i, [], h, fl_tot) r :=
  lc_twoE (j := 11) (k := 2) (mx := 21) (mm := 149) (nL := 3) (pc1 := 274) (nx1 := 277) (q1 := 278) (pc2 := 289) (nx2 := 292) (q2 := 293) (lg := false) (zz := 296) I Q B [21] [143, 149] pv_149 (by decide +kernel) (by decide +kernel) (by decide +kernel) (by decide +kernel) (by decide +kernel) (by decide +kernel) (by decide +kernel) (by decide +kernel) (by decide +kernel) (by decide) (by decide +kernel) (by decide +kernel) (by decide +kernel) (by decide +kernel) (by decide +kernel)
theorem lcs_4 {L : Nat} {xs : Nat → Int32} {h : Hp} (I : LwI L xs h) (Q : PEk 2 0 h) {i : Int32} (B : LwB L i) : ∃ h', LwI L xs h' ∧ PEk 2 0 h' ∧ ∀ d r, 20 ≤ d → Ev d 214 (816, lwL i, [], h', fl_tot) r → Ev d 214 (296, lwL i, [], h, fl_tot) r :=
  lc_twoE (j := 13) (k := 3) (mx := 22) (mm := 150) (nL := 4) (pc1 := 312) (nx1 := 315) (q1 := 316) (pc2 := 332) (nx2 := 335) (q2 := 336) (lg := false) (zz := 339) I Q B [17, 22, 23] [143, 150, 151] pv_150 (by decide +kernel) (by decide +kernel) (by decide +kernel) (by decide +kernel) (by decide +kernel) (by decide +kernel) (by decide +kernel) (by decide +kernel) (by decide +kernel) (by decide) (by decide +kernel) (by decide +kernel) (by decide +kernel) (by decide +kernel) (by decide +kernel)
theorem lcs_5 {L : Nat} {xs : Nat → Int32} {h : Hp} (I : LwI L xs h) (Q : PEk 2 0 h) {i : Int32} (B : LwB L i) : ∃ h', LwI L xs h' ∧ PEk 2 0 h' ∧ ∀ d r, 20 ≤ d → Ev d 214 (816, lwL i, [], h', fl_tot) r → Ev d 214 (339, lwL i, [], h, fl_tot) r :=
  lc_twoE (j := 14) (k := 3) (mx := 24) (mm := 152) (nL := 4) (pc1 := 355) (nx1 := 358) (q1 := 359) (pc2 := 375) (nx2 := 378) (q2 := 379) (lg := false) (zz := 382) I Q B [18, 24] [143, 146, 152] pv_152 (by decide +kernel) (by decide +kernel) (by decide +kernel) (by decide +kernel) (by decide +kernel) (by decide +kernel) (by decide +kernel) (by decide +kernel) (by decide +kernel) (by decide) (by decide +kernel) (by decide +kernel) (by decide +kernel) (by decide +kernel) (by decide +kernel)
theorem lcs_6 {L : Nat} {xs : Nat → Int32} {h : Hp} (I : LwI L xs h) (Q : PEk 2 0 h) {i : Int32} (B : LwB L i) : ∃ h', LwI L xs h' ∧ PEk 2 0 h' ∧ ∀ d r, 20 ≤ d → Ev d 214 (816, lwL i, [], h', fl_tot) r → Ev d 214 (382, lwL i, [], h, fl_tot) r :=
  lc_twoE (j := 73) (k := 0) (mx := 25) (mm := 153) (nL := 3) (pc1 := 383) (nx1 := 386) (q1 := 387) (pc2 := 388) (nx2 := 391) (q2 := 392) (lg := false) (zz := 395) I Q B [10, 18, 25, 26, 27, 28, 29, 30, 31, 32, 33, 34, 35, 36, 37, 38, 39, 40, 41, 42, 43, 44, 45, 46, 47, 48, 49, 50, 51, 52, 53, 54, 55, 56, 57, 58, 59, 60, 61, 62, 63, 64, 65, 66, 67, 68, 69, 70, 71, 72, 73, 74, 75, 76, 77, 78, 79, 80] [153, 154, 155, 156, 157, 158, 159, 160, 161, 162, 163, 164, 165, 166, 167, 168, 169, 170, 171, 172, 173, 174, 175, 176, 177, 178] pv_153 (by decide +kernel) (by decide +kernel) (by decide +kernel) (by decide +kernel) (by decide +kernel) (by decide +kernel) (by decide +kernel) (by decide +kernel) (by decide +kernel) (by decide) (by decide +kernel) (by decide +kernel) (by decide +kernel) (by decide +kernel) (by decide +kernel)
theorem lcs_7 {L : Nat} {xs : Nat → Int32} {h : Hp} (I : LwI L xs h) (Q : PEk 2 0 h) {i : Int32} (B : LwB L i) : ∃ h', LwI L xs h' ∧ PEk 2 0 h' ∧ ∀ d r, 20 ≤ d → Ev d 214 (816, lwL i, [], h', fl_tot) r → Ev d 214 (395, lwL i, [], h, fl_tot) r :=
  lc_twoE (j := 74) (k := 2) (mx := 81) (mm := 179) (nL := 3) (pc1 := 406) (nx1 := 409) (q1 := 410) (pc2 := 421) (nx2 := 424) (q2 := 425) (lg := false) (zz := 428) I Q B [17, 23, 81] [143, 151, 179] pv_179 (by decide +kernel) (by decide +kernel) (by decide +kernel) (by decide +kernel) (by decide +kernel) (by decide +kernel) (by decide +kernel) (by decide +kernel) (by decide +kernel) (by decide) (by decide +kernel) (by decide +kernel) (by decide +kernel) (by decide +kernel) (by decide +kernel)
theorem lcs_8 {L : Nat} {xs : Nat → Int32} {h : Hp} (I : LwI L xs h) (Q : PEk 2 0 h) {i : Int32} (B : LwB L i) : ∃ h', LwI L xs h' ∧ PEk 2 0 h' ∧ ∀ d r, 20 ≤ d → Ev d 214 (816, lwL i, [], h', fl_tot) r → Ev d 214 (428, lwL i, [], h, fl_tot) r :=
  lc_twoE (j := 75) (k := 2) (mx := 82) (mm := 180) (nL := 3) (pc1 := 439) (nx1 := 442) (q1 := 443) (pc2 := 454) (nx2 := 457) (q2 := 458) (lg := false) (zz := 461) I Q B [17, 23, 82] [143, 151, 180] pv_180 (by decide +kernel) (by decide +kernel) (by decide +kernel) (by decide +kernel) (by decide +kernel) (by decide +kernel) (by decide +kernel) (by decide +kernel) (by decide +kernel) (by decide) (by decide +kernel) (by decide +kernel) (by decide +kernel) (by decide +kernel) (by decide +kernel)
theorem lcs_9 {L : Nat} {xs : Nat → Int32} {h : Hp} (I : LwI L xs h) (Q : PEk 2 0 h) {i : Int32} (B : LwB L i) : ∃ h', LwI L xs h' ∧ PEk 2 0 h' ∧ ∀ d r, 20 ≤ d → Ev d 214 (816, lwL i, [], h', fl_tot) r → Ev d 214 (461, lwL i, [], h, fl_tot) r :=
  lc_twoE (j := 76) (k := 2) (mx := 83) (mm := 181) (nL := 3) (pc1 := 472) (nx1 := 475) (q1 := 476) (pc2 := 487) (nx2 := 490) (q2 := 491) (lg := false) (zz := 494) I Q B [17, 23, 83] [143, 151, 181] pv_181 (by decide +kernel) (by decide +kernel) (by decide +kernel) (by decide +kernel) (by decide +kernel) (by decide +kernel) (by decide +kernel) (by decide +kernel) (by decide +kernel) (by decide) (by decide +kernel) (by decide +kernel) (by decide +kernel) (by decide +kernel) (by decide +kernel)
theorem lcs_10 {L : Nat} {xs : Nat → Int32} {h : Hp} (I : LwI L xs h) (Q : PEk 2 0 h) {i : Int32} (B : LwB L i) : ∃ h', LwI L xs h' ∧ PEk 2 0 h' ∧ ∀ d r, 20 ≤ d → Ev d 214 (816, lwL i, [], h', fl_tot) r → Ev d 214 (494, lwL i, [], h, fl_tot) r :=
  lc_twoE (j := 77) (k := 2) (mx := 84) (mm := 182) (nL := 3) (pc1 := 505) (nx1 := 508) (q1 := 509) (pc2 := 520) (nx2 := 523) (q2 := 524) (lg := false) (zz := 527) I Q B [84] [143, 182] pv_182 (by decide +kernel) (by decide +kernel) (by decide +kernel) (by decide +kernel) (by decide +kernel) (by decide +kernel) (by decide +kernel) (by decide +kernel) (by decide +kernel) (by decide) (by decide +kernel) (by decide +kernel) (by decide +kernel) (by decide +kernel) (by decide +kernel)
theorem lcs_11 {L : Nat} {xs : Nat → Int32} {h : Hp} (I : LwI L xs h) (Q : PEk 2 0 h) {i : Int32} (B : LwB L i) : ∃ h', LwI L xs h' ∧ PEk 2 0 h' ∧ ∀ d r, 20 ≤ d → Ev d 214 (816, lwL i, [], h', fl_tot) r → Ev d 214 (527, lwL i, [], h, fl_tot) r :=
  lc_twoE (j := 80) (k := 1) (mx := 85) (mm := 183) (nL := 4) (pc1 := 533) (nx1 := 536) (q1 := 537) (pc2 := 543) (nx2 := 546) (q2 := 547) (lg := false) (zz := 550) I Q B [37, 79, 85, 86, 87] [183] pv_183 (by decide +kernel) (by decide +kernel) (by decide +kernel) (by decide +kernel) (by decide +kernel) (by decide +kernel) (by decide +kernel) (by decide +kernel) (by decide +kernel) (by decide) (by decide +kernel) (by decide +kernel) (by decide +kernel) (by decide +kernel) (by decide +kernel)
theorem lcs_12 {L : Nat} {xs : Nat → Int32} {h : Hp} (I : LwI L xs h) (Q : PEk 2 0 h) {i : Int32} (B : LwB L i) : ∃ h', LwI L xs h' ∧ PEk 2 0 h' ∧ ∀ d r, 20 ≤ d → Ev d 214 (816, lwL i, [], h', fl_tot) r → Ev d 214 (550, lwL i, [], h, fl_tot) r :=
  lc_twoE (j := 83) (k := 1) (mx := 88) (mm := 184) (nL := 2) (pc1 := 556) (nx1 := 559) (q1 := 560) (pc2 := 566) (nx2 := 569) (q2 := 570) (lg := false) (zz := 573) I Q B [18, 88, 89, 90] [143, 146, 184, 185] pv_184 (by decide +kernel) (by decide +kernel) (by decide +kernel) (by decide +kernel) (by decide +kernel) (by decide +kernel) (by decide +kernel) (by decide +kernel) (by decide +kernel) (by decide) (by decide +kernel) (by decide +kernel) (by decide +kernel) (by decide +kernel) (by decide +kernel)
theorem lcs_13 {L : Nat} {xs : Nat → Int32} {h : Hp} (I : LwI L xs h) (Q : PEk 2 0 h) {i : Int32} (B : LwB L i) : ∃ h', LwI L xs h' ∧ PEk 2 0 h' ∧ ∀ d r, 20 ≤ d → Ev d 214 (816, lwL i, [], h', fl_tot) r → Ev d 214 (573, lwL i, [], h, fl_tot) r :=
  lc_twoE (j := 90) (k := 3) (mx := 91) (mm := 186) (nL := 4) (pc1 := 589) (nx1 := 592) (q1 := 593) (pc2 := 609) (nx2 := 612) (q2 := 613) (lg := false) (zz := 616) I Q B [18, 51, 52, 89, 90, 91, 92, 93, 94, 95, 96, 97] [143, 146, 164, 165, 185, 186, 187, 188, 189] pv_186 (by decide +kernel) (by decide +kernel) (by decide +kernel) (by decide +kernel) (by decide +kernel) (by decide +kernel) (by decide +kernel) (by decide +kernel) (by decide +kernel) (by decide) (by decide +kernel) (by decide +kernel) (by decide +kernel) (by decide +kernel) (by decide +kernel)
theorem lcs_14 {L : Nat} {xs : Nat → Int32} {h : Hp} (I : LwI L xs h) (Q : PEk 2 0 h) {i : Int32} (B : LwB L i) : ∃ h', LwI L xs h' ∧ PEk 2 0 h' ∧ ∀ d r, 20 ≤ d → Ev d 214 (816, lwL i, [], h', fl_tot) r → Ev d 214 (616, lwL i, [], h, fl_tot) r :=
  lc_twoE (j := 91) (k := 0) (mx := 98) (mm := 190) (nL := 1) (pc1 := 617) (nx1 := 620) (q1 := 621) (pc2 := 622) (nx2 := 625) (q2 := 626) (lg := false) (zz := 629) I Q B [98] [190] pv_190 (by decide +kernel) (by decide +kernel) (by decide +kernel) (by decide +kernel) (by decide +kernel) (by decide +kernel) (by decide +kernel) (by decide +kernel) (by decide +kernel) (by decide) (by decide +kernel) (by decide +kernel) (by decide +kernel) (by decide +kernel) (by decide +kernel)
theorem lcs_15 {L : Nat} {xs : Nat → Int32} {h : Hp} (I : LwI L xs h) (Q : PEk 2 0 h) {i : Int32} (B : LwB L i) : ∃ h', LwI L xs h' ∧ PEk 2 0 h' ∧ ∀ d r, 20 ≤ d → Ev d 214 (816, lwL i, [], h', fl_tot) r → Ev d 214 (629, lwL i, [], h, fl_tot) r :=
  lc_twoE (j := 96) (k := 2) (mx := 99) (mm := 191) (nL := 5) (pc1 := 640) (nx1 := 643) (q1 := 644) (pc2 := 655) (nx2 := 658) (q2 := 659) (lg := false) (zz := 662) I Q B [18, 99, 100, 101, 102, 103] [143, 146, 191] pv_191 (by decide +kernel) (by decide +kernel) (by decide +kernel) (by decide +kernel) (by decide +kernel) (by decide +kernel) (by decide +kernel) (by decide +kernel) (by decide +kernel) (by decide) (by decide +kernel) (by decide +kernel) (by decide +kernel) (by decide +kernel) (by decide +kernel)
theorem lcs_16 {L : Nat} {xs : Nat → Int32} {h : Hp} (I : LwI L xs h) (Q : PEk 2 0 h) {i : Int32} (B : LwB L i) : ∃ h', LwI L xs h' ∧ PEk 2 0 h' ∧ ∀ d r, 20 ≤ d → Ev d 214 (816, lwL i, [], h', fl_tot) r → Ev d 214 (662, lwL i, [], h, fl_tot) r :=
  lc_twoE (j := 129) (k := 1) (mx := 104) (mm := 192) (nL := 2) (pc1 := 668) (nx1 := 671) (q1 := 672) (pc2 := 678) (nx2 := 681) (q2 := 682) (lg := false) (zz := 685) I Q B [10, 17, 18, 23, 29, 51, 52, 54, 55, 56, 61, 68, 70, 71, 72, 74, 75, 77, 97, 104, 105, 106, 107, 108, 109, 110, 111, 112, 113, 114, 115, 116, 117, 118, 119, 120, 121, 122, 123, 124] [143, 146, 175, 192, 193, 194, 195, 196, 197, 198, 199, 200, 201, 202] pv_192 (by decide +kernel) (by decide +kernel) (by decide +kernel) (by decide +kernel) (by decide +kernel) (by decide +kernel) (by decide +kernel) (by decide +kernel) (by decide +kernel) (by decide) (by decide +kernel) (by decide +kernel) (by decide +kernel) (by decide +kernel) (by decide +kernel)
theorem lcs_17 {L : Nat} {xs : Nat → Int32} {h : Hp} (I : LwI L xs h) (Q : PEk 2 0 h) {i : Int32} (B : LwB L i) : ∃ h', LwI L xs h' ∧ PEk 2 0 h' ∧ ∀ d r, 20 ≤ d → Ev d 214 (816, lwL i, [], h', fl_tot) r → Ev d 214 (685, lwL i, [], h, fl_tot) r :=
  lc_twoE (j := 131) (k := 2) (mx := 125) (mm := 203) (nL := 3) (pc1 := 696) (nx1 := 699) (q1 := 700) (pc2 := 711) (nx2 := 714) (q2 := 715) (lg := false) (zz := 718) I Q B [10, 17, 18, 23, 29, 51, 52, 54, 55, 56, 61, 68, 70, 71, 72, 74, 75, 77, 97, 105, 106, 107, 108, 109, 110, 111, 112, 113, 114, 115, 116, 117, 118, 119, 120, 121, 122, 123, 124, 125, 126] [143, 146, 175, 193, 194, 195, 196, 197, 198, 199, 200, 201, 202, 203] pv_203 (by decide +kernel) (by decide +kernel) (by decide +kernel) (by decide +kernel) (by decide +kernel) (by decide +kernel) (by decide +kernel) (by decide +kernel) (by decide +kernel) (by decide) (by decide +kernel) (by decide +kernel) (by decide +kernel) (by decide +kernel) (by decide +kernel)
theorem lcs_18 {L : Nat} {xs : Nat → Int32} {h : Hp} (I : LwI L xs h) (Q : PEk 2 0 h) {i : Int32} (B : LwB L i) : ∃ h', LwI L xs h' ∧ PEk 2 0 h' ∧ ∀ d r, 20 ≤ d → Ev d 214 (816, lwL i, [], h', fl_tot) r → Ev d 214 (718, lwL i, [], h, fl_tot) r :=
  lc_twoE (j := 132) (k := 0) (mx := 127) (mm := 204) (nL := 1) (pc1 := 719) (nx1 := 722) (q1 := 723) (pc2 := 724) (nx2 := 727) (q2 := 728) (lg := false) (zz := 731) I Q B [127] [204] pv_204 (by decide +kernel) (by decide +kernel) (by decide +kernel) (by decide +kernel) (by decide +kernel) (by decide +kernel) (by decide +kernel) (by decide +kernel) (by decide +kernel) (by decide) (by decide +kernel) (by decide +kernel) (by decide +kernel) (by decide +kernel) (by decide +kernel)
theorem lcs_19 {L : Nat} {xs : Nat → Int32} {h : Hp} (I : LwI L xs h) (Q : PEk 2 0 h) {i : Int32} (B : LwB L i) : ∃ h', LwI L xs h' ∧ PEk 2 0 h' ∧ ∀ d r, 20 ≤ d → Ev d 214 (816, lwL i, [], h', fl_tot) r → Ev d 214 (731, lwL i, [], h, fl_tot) r :=
  lc_twoE (j := 133) (k := 0) (mx := 128) (mm := 205) (nL := 2) (pc1 := 732) (nx1 := 735) (q1 := 736) (pc2 := 737) (nx2 := 740) (q2 := 741) (lg := false) (zz := 744) I Q B [10, 17, 18, 23, 29, 51, 52, 54, 55, 56, 61, 68, 70, 71, 72, 74, 75, 77, 97, 105, 106, 107, 108, 109, 110, 111, 112, 113, 114, 115, 116, 117, 118, 119, 120, 121, 122, 123, 124, 128] [175, 193, 194, 195, 196, 197, 198, 199, 200, 201, 202, 205] pv_205 (by decide +kernel) (by decide +kernel) (by decide +kernel) (by decide +kernel) (by decide +kernel) (by decide +kernel) (by decide +kernel) (by decide +kernel) (by decide +kernel) (by decide) (by decide +kernel) (by decide +kernel) (by decide +kernel) (by decide +kernel) (by decide +kernel)
theorem lcs_20 {L : Nat} {xs : Nat → Int32} {h : Hp} (I : LwI L xs h) (Q : PEk 2 0 h) {i : Int32} (B : LwB L i) : ∃ h', LwI L xs h' ∧ PEk 2 0 h' ∧ ∀ d r, 20 ≤ d → Ev d 214 (816, lwL i, [], h', fl_tot) r → Ev d 214 (744, lwL i, [], h, fl_tot) r :=
  lc_twoE (j := 142) (k := 1) (mx := 129) (mm := 206) (nL := 7) (pc1 := 750) (nx1 := 753) (q1 := 754) (pc2 := 760) (nx2 := 763) (q2 := 764) (lg := false) (zz := 767) I Q B [10, 17, 18, 23, 26, 27, 28, 29, 30, 31, 32, 33, 34, 35, 36, 37, 38, 39, 40, 41, 42, 43, 44, 45, 46, 47, 48, 49, 50, 51, 52, 53, 54, 55, 56, 57, 58, 59, 60, 61, 62, 63, 64, 65, 66, 67, 68, 69, 70, 71, 72, 73, 74, 75, 76, 77, 78, 79, 80, 97, 106, 107, 108, 109, 110, 111, 112, 113, 114, 115, 116, 117, 118, 119, 120, 121, 122, 123, 124, 129, 130, 131, 132, 133, 134, 135] [143, 153, 154, 155, 156, 157, 158, 159, 160, 161, 162, 163, 164, 165, 166, 167, 168, 169, 170, 171, 172, 173, 174, 175, 176, 177, 178, 194, 195, 196, 197, 198, 199, 200, 201, 202, 206, 207, 208, 209, 210] pv_206 (by decide +kernel) (by decide +kernel) (by decide +kernel) (by decide +kernel) (by decide +kernel) (by decide +kernel) (by decide +kernel) (by decide +kernel) (by decide +kernel) (by decide) (by decide +kernel) (by decide +kernel) (by decide +kernel) (by decide +kernel) (by decide +kernel)
theorem lcs_21 {L : Nat} {xs : Nat → Int32} {h : Hp} (I : LwI L xs h) (Q : PEk 2 0 h) {i : Int32} (B : LwB L i) : ∃ h', LwI L xs h' ∧ PEk 2 0 h' ∧ ∀ d r, 20 ≤ d → Ev d 214 (816, lwL i, [], h', fl_tot) r → Ev d 214 (767, lwL i, [], h, fl_tot) r :=
  lc_twoE (j := 143) (k := 1) (mx := 136) (mm := 211) (nL := 2) (pc1 := 773) (nx1 := 776) (q1 := 777) (pc2 := 783) (nx2 := 786) (q2 := 787) (lg := false) (zz := 790) I Q B [136] [143, 211] pv_211 (by decide +kernel) (by decide +kernel) (by decide +kernel) (by decide +kernel) (by decide +kernel) (by decide +kernel) (by decide +kernel) (by decide +kernel) (by decide +kernel) (by decide) (by decide +kernel) (by decide +kernel) (by decide +kernel) (by decide +kernel) (by decide +kernel)
theorem lcs_22 {L : Nat} {xs : Nat → Int32} {h : Hp} (I : LwI L xs h) (Q : PEk 2 0 h) {i : Int32} (B : LwB L i) : ∃ h', LwI L xs h' ∧ PEk 2 0 h' ∧ ∀ d r, 20 ≤ d → Ev d 214 (816, lwL i, [], h', fl_tot) r → Ev d 214 (790, lwL i, [], h, fl_tot) r :=
  lc_twoE (j := 146) (k := 0) (mx := 137) (mm := 212) (nL := 6) (pc1 := 791) (nx1 := 794) (q1 := 795) (pc2 := 796) (nx2 := 799) (q2 := 800) (lg := true) (zz := 803) I Q B [51, 52, 89, 90, 92, 93, 94, 95, 96, 97, 137, 138, 139] [164, 165, 185, 187, 188, 189, 212] pv_212 (by decide +kernel) (by decide +kernel) (by decide +kernel) (by decide +kernel) (by decide +kernel) (by decide +kernel) (by decide +kernel) (by decide +kernel) (by decide +kernel) (by decide) (by decide +kernel) (by decide +kernel) (by decide +kernel) (by decide +kernel) (by decide +kernel)
theorem lcs_23 {L : Nat} {xs : Nat → Int32} {h : Hp} (I : LwI L xs h) (Q : PEk 2 0 h) {i : Int32} (B : LwB L i) : ∃ h', LwI L xs h' ∧ PEk 2 0 h' ∧ ∀ d r, 20 ≤ d → Ev d 214 (816, lwL i, [], h', fl_tot) r → Ev d 214 (803, lwL i, [], h, fl_tot) r := by
  obtain ⟨w, h1, X, fr1, I1, hw, K1⟩ := lc_xe (lg := false) (pc := 804) (nx := 807) (m := 140) (k := 0) (j := 147) I i (by decide +kernel) (by decide +kernel) (by decide +kernel)
  obtain ⟨v, h2, M, fr2, I2, hv, K2⟩ := lc_me (lg := false) (pc := 809) (nx := 812) (m := 213) (k := 0) (nL := 3) I1 i pv_213 (by decide +kernel) (by decide +kernel) (by decide) (by decide +kernel) (by decide +kernel)
  obtain ⟨x0, hx, xe, xq2, xq3⟩ := x_clear I.1
  obtain ⟨ew, eh⟩ := X.eq (nL := 2) (by decide +kernel) xe
  subst eh
  subst ew
  obtain ⟨m0, hm, me, mq0, mq4⟩ := m_clear I1.1
  obtain ⟨ev, eg⟩ := M.eq (nL := 3) (by decide +kernel) (me 20 (by omega))
  subst eg
  subst ev
  have Q2 : PEk 2 0 h2 := by
    show (h2.1 (xc 2) 2).toInt = rd 31 0 h2
    rw [fr2.2 (xc 2) (by rw [kd2]; omega), xq2, mq0]
  refine ⟨h2, I2, Q2, fun d r hd e => ?_⟩
  have g3 : Ev d 214 (813, lwL i, [], h2, fl_tot) r := Ev.step (c' := (816, lwL i, [], h2, fl_tot)) (show fl_code 214 813 = some (8, [816], 816) by decide +kernel) rfl e
  have g2 := lc_walk_ok I1 B 60 808 [] 809 _ [] (show lc_walk 60 808 [] = some (809, lwA 0 (xc 31 : Nat)) by decide +kernel) d r (K2 d r [] hd (by decide) (lc_pop (lg := false) hv (show fl_code 214 812 = some (popO false, [], 813) by decide +kernel) g3))
  exact lc_walk_ok I B 60 803 [] 804 _ [] (show lc_walk 60 803 [] = some (804, lwA 0 (0 : Nat)) by decide +kernel) d r (K1 d r [] hd (by decide) (lc_pop (lg := false) hw (show fl_code 214 807 = some (popO false, [], 808) by decide +kernel) g2))
/-! THE LOOP -/
def lcT : List Int := [816, 144, 187, 200, 263, 296, 339, 382, 395, 428, 461, 494, 527, 550, 573, 616, 629, 662, 685, 718, 731, 744, 767, 790, 803]
theorem lc_head {L : Nat} {xs : Nat → Int32} {h : Hp} (I : LwI L xs h) (hL : L ≤ 3072) {i : Int32} (h0 : 0 ≤ i.toInt) (h1 : i.toInt ≤ L + 6) :
    (L < i.toInt + 6 ∧ ∀ d, Ev d 214 (18, lwL i, [], h, fl_tot) (some (.int 1), h, fl_tot)) ∨ (LwB L i ∧ ∃ t ∈ lcT, ∀ d r, Ev d 214 (t.toNat, lwL i, [], h, fl_tot) r → Ev d 214 (18, lwL i, [], h, fl_tot) r) := by
  have hlen := lc_len I hL
  have eL : (Int32.ofNat L).toInt = L := by
    show (Int32.ofInt (L : Int)).toInt = L
    exact ofInt_toInt (by omega) (by omega)
  have e6 : (Int32.ofNat L - Int32.ofInt 6).toInt = L - 6 := by
    rw [Int32.toInt_sub, eL, ofInt_toInt (by omega) (by omega), i_bm (by omega) (by omega)]
  have pre : ∀ d r, Ev d 214 (24, lwL i, [.int (Int32.ofNat L - Int32.ofInt 6), .int i], h, fl_tot) r → Ev d 214 (18, lwL i, [], h, fl_tot) r := fun d r e => by
    refine Ev.step (q := (2, [3, 0], 19)) (c' := (19, lwL i, [.int i], h, fl_tot)) (by dsimp only; decide +kernel) rfl ?_
    refine Ev.step (q := (2, [0, 2], 20)) (c' := (20, lwL i, [.ref 1010, .int i], h, fl_tot)) (by dsimp only; decide +kernel) rfl ?_
    refine Ev.step (q := (17, [], 21)) (c' := (21, lwL i, [.int (Int32.ofNat L), .int i], h, fl_tot)) (by dsimp only; decide +kernel) ?_ ?_
    · show some (Sum.inl (21, lwL i, [Value.int (Int32.ofNat (fl_len h 1010)), .int i], h, fl_tot)) = _
      rw [hlen]
    refine Ev.step (q := (1, [6], 23)) (c' := (23, lwL i, [.int (Int32.ofInt 6), .int (Int32.ofNat L), .int i], h, fl_tot)) (by dsimp only; decide +kernel) rfl ?_
    exact Ev.step (q := (5, [1], 24)) (c' := (24, lwL i, [.int (Int32.ofNat L - Int32.ofInt 6), .int i], h, fl_tot)) (by dsimp only; decide +kernel) rfl e
  by_cases hc : Int32.ofNat L - Int32.ofInt 6 < i
  · refine Or.inl ⟨?_, fun d => pre d _ ?_⟩
    · have := Int32.lt_iff_toInt_lt.mp hc
      omega
    · refine Ev.step (q := (7, [4, 822], 27)) (c' := (822, lwL i, [], h, fl_tot)) (by dsimp only; decide +kernel) ?_ ?_
      · show some (Sum.inl ((if decide (Int32.ofNat L - Int32.ofInt 6 < i) = true then (822 : Int).toNat else 27), lwL i, [], h, fl_tot)) = _
        rw [decide_eq_true hc]
        rfl
      · refine Ev.step (q := (1, [1], 823)) (c' := (823, lwL i, [.int 1], h, fl_tot)) (by dsimp only; decide +kernel) rfl ?_
        exact Ev.ret (q := (22, [1], 824)) (c := (823, lwL i, [.int 1], h, fl_tot)) (by dsimp only; decide +kernel) rfl
  · have B : LwB L i := by
      refine ⟨h0, ?_, hL⟩
      have : ¬ (Int32.ofNat L - Int32.ofInt 6).toInt < i.toInt := fun z => hc (Int32.lt_iff_toInt_lt.mpr z)
      omega
    have hi := lc_clamp h0
    have hsw : ∃ t ∈ lcT, fl_step (40, [0, 816, 144, 187, 200, 263, 296, 339, 382, 395, 428, 461, 494, 527, 550, 573, 616, 629, 662, 685, 718, 731, 744, 767, 790, 803], 144) (33, lwL i, [.int (xs i.toNatClampNeg &&& Int32.ofInt 31)], h, fl_tot) = some (.inl (t.toNat, lwL i, [], h, fl_tot)) := by
      simp only [fl_step]
      split
      · exact ⟨_, by decide, rfl⟩
      · split
        · rename_i t ht
          exact ⟨t, List.mem_of_getElem? ht |> fun z => by unfold lcT; exact List.mem_cons_of_mem _ z, rfl⟩
        · exact ⟨_, by decide, rfl⟩
    obtain ⟨t, ht, hs⟩ := hsw
    refine Or.inr ⟨B, t, ht, fun d r e => pre d r ?_⟩
    refine Ev.step (q := (7, [4, 822], 27)) (c' := (27, lwL i, [], h, fl_tot)) (by dsimp only; decide +kernel) ?_ ?_
    · show some (Sum.inl ((if decide (Int32.ofNat L - Int32.ofInt 6 < i) = true then (822 : Int).toNat else 27), lwL i, [], h, fl_tot)) = _
      rw [decide_eq_false hc]
      rfl
    refine Ev.step (q := (2, [0, 2], 28)) (c' := (28, lwL i, [.ref 1010], h, fl_tot)) (by dsimp only; decide +kernel) rfl ?_
    refine Ev.step (q := (2, [3, 0], 29)) (c' := (29, lwL i, [.int i, .ref 1010], h, fl_tot)) (by dsimp only; decide +kernel) rfl ?_
    refine Ev.step (q := (11, [], 30)) (c' := (30, lwL i, [.int (xs i.toNatClampNeg)], h, fl_tot)) (by dsimp only; decide +kernel) ?_ ?_
    · have hin : fl_in i (fl_len h 1010) = true := by
        rw [hlen]
        exact (n_of h0 (by have := B.2.1; omega)).1
      show (if fl_isI fl_tot 1010 && fl_in i (fl_len h 1010) then some (Sum.inl (30, lwL i, [Value.int (h.1 1010 i.toNatClampNeg)], h, fl_tot)) else none) = _
      rw [hin, if_pos (show (fl_isI fl_tot 1010 && true) = true by decide), I.2.2.1]
    refine Ev.step (q := (1, [31], 32)) (c' := (32, lwL i, [.int (Int32.ofInt 31), .int (xs i.toNatClampNeg)], h, fl_tot)) (by dsimp only; decide +kernel) rfl ?_
    refine Ev.step (q := (5, [8], 33)) (c' := (33, lwL i, [.int (xs i.toNatClampNeg &&& Int32.ofInt 31)], h, fl_tot)) (by dsimp only; decide +kernel) rfl ?_
    exact Ev.step (q := (40, [0, 816, 144, 187, 200, 263, 296, 339, 382, 395, 428, 461, 494, 527, 550, 573, 616, 629, 662, 685, 718, 731, 744, 767, 790, 803], 144)) (by dsimp only; decide +kernel) hs e
theorem lc_case {L : Nat} {xs : Nat → Int32} {h : Hp} (I : LwI L xs h) (Q : PEk 2 0 h) {i : Int32} (B : LwB L i) {t : Int} (ht : t ∈ lcT) : ∃ h', LwI L xs h' ∧ PEk 2 0 h' ∧ ∀ d r, 20 ≤ d → Ev d 214 (816, lwL i, [], h', fl_tot) r → Ev d 214 (t.toNat, lwL i, [], h, fl_tot) r := by
  simp only [lcT, List.mem_cons, List.not_mem_nil, or_false] at ht
  rcases ht with rfl | rfl | rfl | rfl | rfl | rfl | rfl | rfl | rfl | rfl | rfl | rfl | rfl | rfl | rfl | rfl | rfl | rfl | rfl | rfl | rfl | rfl | rfl | rfl | rfl
  · exact ⟨h, I, Q, fun d r _ e => e⟩
  · exact lcs_0 I Q B
  · exact lcs_1 I Q B
  · exact lcs_2 I Q B
  · exact lcs_3 I Q B
  · exact lcs_4 I Q B
  · exact lcs_5 I Q B
  · exact lcs_6 I Q B
  · exact lcs_7 I Q B
  · exact lcs_8 I Q B
  · exact lcs_9 I Q B
  · exact lcs_10 I Q B
  · exact lcs_11 I Q B
  · exact lcs_12 I Q B
  · exact lcs_13 I Q B
  · exact lcs_14 I Q B
  · exact lcs_15 I Q B
  · exact lcs_16 I Q B
  · exact lcs_17 I Q B
  · exact lcs_18 I Q B
  · exact lcs_19 I Q B
  · exact lcs_20 I Q B
  · exact lcs_21 I Q B
  · exact lcs_22 I Q B
  · exact lcs_23 I Q B
theorem lc_loop {L : Nat} {xs : Nat → Int32} (hL : L ≤ 3072) : ∀ (n : Nat) (i : Int32) (h : Hp), LwI L xs h → PEk 2 0 h → L + 6 - i.toInt < n → 0 ≤ i.toInt → i.toInt ≤ L + 6 → ∃ h', ∀ d, 20 ≤ d → Ev d 214 (18, lwL i, [], h, fl_tot) (some (.int 1), h', fl_tot) := by
  intro n
  induction n with
  | zero => intro i h I Q h1 h2 h3; omega
  | succ n ih =>
    intro i h I Q h1 h2 h3
    rcases lc_head I hL h2 h3 with ⟨-, K⟩ | ⟨B, t, ht, K⟩
    · exact ⟨h, fun d _ => K d⟩
    · obtain ⟨h2', I2, Q2, K2⟩ := lc_case I Q B ht
      have e6 := lc_add B (z := 6) (by omega) (by omega)
      have B2 := B.2.1
      obtain ⟨h', K3⟩ := ih (i + Int32.ofInt 6) h2' I2 Q2 (by omega) (by omega) (by omega)
      refine ⟨h', fun d hd => K d _ (K2 d _ hd ?_)⟩
      refine Ev.step (q := (4, [3, 6], 819)) (c' := (819, lwL (i + Int32.ofInt 6), [], h2', fl_tot)) (by dsimp only; decide +kernel) rfl ?_
      exact Ev.step (q := (8, [18], 822)) (c' := (18, lwL (i + Int32.ofInt 6), [], h2', fl_tot)) (by dsimp only; decide +kernel) rfl (K3 d hd)
/-! FROM THE START -/
theorem ct_ex : ∃ w c w2 c2, ct_a = some (false, w, c) ∧ c.2.1 = [some (.ref 1010), some (.ref 0), none, none] ∧ c.2.2.1 = [rv 31, rv 31] ∧ ct_b c.2.2.2.1 c.2.2.2.2 = some (false, w2, c2) ∧ c2.2.2.2.2 = 285 ∧ cmT c2.2.2.2.1 = true ∧ c2.2.1 = [some (rv 31), some (.int 0)] ∧ c2.2.2.1 = [] := by
  have h := ct_ok
  unfold ct_ck at h
  split at h
  · rename_i w c hc
    rw [Bool.and_eq_true] at h
    obtain ⟨h1, h2⟩ := h
    split at h1
    · rename_i a b x y e1 e2
      simp only [Bool.and_eq_true, decide_eq_true_eq] at h1
      obtain ⟨⟨⟨rfl, rfl⟩, rfl⟩, rfl⟩ := h1
      split at h2
      · rename_i w2 c2 hc2
        unfold ct_ckb at h2
        simp only [Bool.and_eq_true, decide_eq_true_eq] at h2
        obtain ⟨⟨⟨k1, k2⟩, k3⟩, k4⟩ := h2
        split at k3
        · rename_i a z e3
          simp only [Bool.and_eq_true, decide_eq_true_eq] at k3
          obtain ⟨rfl, rfl⟩ := k3
          exact ⟨w, c, w2, c2, hc, e1, e2, hc2, k1, k2, e3, List.isEmpty_iff.mp k4⟩
        · cases k3
      · cases h2
    · cases h1
  · cases h
theorem hp_far {g : Hp} {L : CL} (hc : cmT L = true) {r j : Nat} (hr : 31 ≤ ab_kd r) : (hpL g L).1 r j = g.1 r j := by
  unfold cmT at hc
  rw [Bool.and_eq_true] at hc
  rcases hpI_or (b := g.1) (r := r) (j := j) (l := L.2) with h | ⟨x, x1, x2, x3, x4⟩
  · exact h
  · exfalso
    have hE := List.all_eq_true.mp hc.2 x x1
    unfold cmE at hE
    rw [Bool.and_eq_true, x2, decide_eq_true_eq] at hE
    omega
theorem c_ini {h : Hp} (hT : TInv h) (V : RG h) : ∀ (n : Nat) (i : Int) (ls : List (Option Value)) (h1 : Hp), TInv h1 → Nx h h1 → RG h1 → 600 - i < n → (0 ≤ i ∧ i ≤ 600) → LVs [some (rv 31), some (iv i)] ls → ∃ h', (∀ d, 3 ≤ d → Ev d 141 (497, ls, [], h1, fl_tot) (none, h', fl_tot)) ∧ Nx h h' ∧ RG h' := by
  intro n
  induction n with
  | zero => intro i ls h1 hT1 N G q1 q2; omega
  | succ n ih =>
    intro i ls h1 hT1 N G q1 b_i hl
    rcases s141 hT1 b_i hl with ⟨f0, f1, T, K⟩ | ⟨g1, rfl, f0, f1, T, lv, Hl, K⟩
    · exact ⟨h1, fun d hd => K d (by omega), N, G⟩
    · obtain ⟨h', u1, u2, u3⟩ := ih (i + 1) lv _ T.1 (N.trans T) (G.fr ((Fq.refl (Ks := [41]) (fs := []) h1).put 41 i (-1) rfl) rfl) (by omega) (by omega) Hl
      exact ⟨h', fun d hd => K d _ (by omega) (u1 d hd), u2, u3⟩
def ct_ck2 : Bool := match ct_a with
  | some (false, _, c) => (match ct_b c.2.2.2.1 c.2.2.2.2 with
    | some (false, _, c2) => c2.2.2.2.1.2.all (fun e => !(decide (e.1 = xc 2)))
    | _ => false)
  | _ => false
theorem ct_ok2 : ct_ck2 = true := by decide +kernel
theorem flat_law : FlatLaw := fun L xs hL => by
  obtain ⟨w, c, w2, c2, a1, a2, a3, a4, a5, a6, a7, a8⟩ := ct_ex
  have g0 : ∀ r j, r < 1000 → (fl_h0 (fl_g L xs)).1 r j = 0 ∧ (fl_h0 (fl_g L xs)).2 r j = none := fun r j hr => by
    unfold fl_h0
    refine ⟨?_, rfl⟩
    show (if 1000 ≤ r then _ else (0 : Int32)) = 0
    rw [if_neg (by omega)]
  have far : ∀ r j, 1000 ≤ r → (fl_h0 (fl_g L xs)).1 r j = fl_g L xs (r - 1000) j := fun r j hr => by
    show (if 1000 ≤ r then fl_g L xs (r - 1000) j else (0 : Int32)) = _
    rw [if_pos hr]
  generalize hg : fl_h0 (fl_g L xs) = g at *
  have G0 : cmG g ([], []) 0 := fun r j _ hr => g0 r j hr
  obtain ⟨G1, -, K1⟩ := cm_ok (g := g) 20000 10 214 12 (0, fl_enter 4 [.ref 1010], [], ([], []), 0) false w c a1 G0
  obtain ⟨e1, K1⟩ := K1 rfl
  obtain ⟨G2, -, K2⟩ := cm_ok (g := g) 20000 10 141 497 (0, fl_enter 2 [rv 31], [], c.2.2.2.1, c.2.2.2.2) false w2 c2 a4 G1
  obtain ⟨e2, K2⟩ := K2 rfl
  have T := cmT_ok (g := g) g0 a6
  have z4 : rd 31 4 (hpL g c2.2.2.2.1) = 0 := by
    show ((hpL g c2.2.2.2.1).1 (xc 31) 4).toInt = 0
    rw [hp_far a6 (by decide +kernel), (g0 (xc 31) 4 (by decide +kernel)).1]
    rfl
  have z13 : rd 31 13 (hpL g c2.2.2.2.1) = 0 := by
    show ((hpL g c2.2.2.2.1).1 (xc 31) 13).toInt = 0
    rw [hp_far a6 (by decide +kernel), (g0 (xc 31) 13 (by decide +kernel)).1]
    rfl
  have G : RG (hpL g c2.2.2.2.1) := RG.off (fun cl j q1 q2 => by omega) z13
  obtain ⟨h', u1, u2, u3⟩ := c_ini T G 601 0 [some (rv 31), some (.int 0)] _ T ⟨T, Rf.refl _⟩ G (by omega) (by omega) (LVs.self _)
  have I : LwI L xs h' := by
    refine ⟨u2.1, u3, fun j => ?_, ?_⟩
    · rw [u2.2.2 1010 (by decide +kernel), hp_far a6 (by decide +kernel), far 1010 j (by omega)]
      rfl
    · rw [u2.2.2 1011 (by decide +kernel), hp_far a6 (by decide +kernel), far 1011 0 (by omega)]
      rfl
  have Q : PEk 2 0 h' := by
    have h2 := ct_ok2
    unfold ct_ck2 at h2
    rw [a1] at h2
    simp only at h2
    rw [a4] at h2
    simp only at h2
    have zx : (hpL g c2.2.2.2.1).1 (xc 2) 2 = 0 := by
      rcases hpI_or (b := g.1) (r := xc 2) (j := 2) (l := c2.2.2.2.1.2) with z | ⟨x, x1, x2, x3, x4⟩
      · show hpI g.1 c2.2.2.2.1.2 (xc 2) 2 = 0
        rw [z]
        exact (g0 (xc 2) 2 (by decide +kernel)).1
      · exfalso
        have := List.all_eq_true.mp h2 x x1
        rw [x2] at this
        simp at this
    show (h'.1 (xc 2) 2).toInt = (h'.1 (xc 31) 0).toInt
    rw [u2.2.2 (xc 2) (by rw [kd2]; omega), zx, sf_ev (ci := 10) (k := 0) (S := [141]) (by decide +kernel) (by decide) (u1 3 (Nat.le_refl _)) (xc 31) lay31, hp_far a6 (by rw [kd31]; omega), (g0 (xc 31) 0 (by decide +kernel)).1]
  obtain ⟨h'', K3⟩ := lc_loop hL (L + 7) 0 h' I Q (by show (L : Int) + 6 - 0 < _; omega) (by decide) (by show (0 : Int) ≤ _; omega)
  have f1 : Ev 40 214 (rl g (0, fl_enter 4 [.ref 1010], [], ([], []), 0)) (some (.int 1), h'', fl_tot) := by
    refine K1 40 _ (by omega) ?_
    have ec : rl g c = (12, [some (.ref 1010), some (.ref 0), none, none], [rv 31, rv 31], hpL g c.2.2.2.1, c.2.2.2.2) := by
      unfold rl
      rw [e1, a2, a3]
    rw [ec]
    have f2 : Ev 39 141 (0, fl_enter 2 [rv 31], [], hpL g c.2.2.2.1, c.2.2.2.2) (none, h', fl_tot) := by
      refine K2 39 _ (by omega) ?_
      have ec2 : rl g c2 = (497, [some (rv 31), some (.int 0)], [], hpL g c2.2.2.2.1, fl_tot) := by
        unfold rl
        rw [e2, a5, a7, a8]
      rw [ec2]
      exact u1 39 (by omega)
    obtain ⟨y, hy, hl⟩ : ∃ y, sm_ms[141]? = some y ∧ y.2.2.1 = 2 := ⟨_, rfl, rfl⟩
    refine Ev.call (q := (20, [141, 0], 15)) (as := [rv 31]) (rest := [rv 31]) (m2 := 141) (nx := 15) (by dsimp only; decide +kernel) rfl hy (by rw [hl]; decide) (by rw [hl]; exact f2) ?_
    · refine Ev.step (q := (3, [2, 2], 16)) (c' := (16, [some (.ref 1010), some (.ref 0), some (rv 31), none], [], h', fl_tot)) (by dsimp only; decide +kernel) rfl ?_
      refine Ev.step (q := (1, [0], 17)) (c' := (17, [some (.ref 1010), some (.ref 0), some (rv 31), none], [.int 0], h', fl_tot)) (by dsimp only; decide +kernel) rfl ?_
      exact Ev.step (q := (3, [3, 0], 18)) (c' := (18, lwL 0, [], h', fl_tot)) (by dsimp only; decide +kernel) rfl (K3 40 (by omega))
  obtain ⟨f, hf⟩ := f1
  exact ⟨f, h'', hf⟩
