
set_option maxRecDepth 20000
/-! THE CLASS: explore, what it keeps -/
theorem b41 {d m pc nx n : Nat} {a : List Int} {ls : List (Option Value)} {st : List Value} {k dp sp : Int32} {b r0 : Nat} {h : Hp} {r : Option Value × Hp × Nat} (e : Ev d m (pc, ls, .int k :: .int dp :: .ref b :: .int sp :: .ref r0 :: st, h, n) r) (hc : fl_code m pc = some (41, a, nx)) : Ev d m (nx, ls, st, fl_copy h r0 sp.toNatClampNeg b dp.toNatClampNeg k.toNatClampNeg, n) r := by
  obtain ⟨o', s1, s2⟩ := e.inv hc
  simp only [fl_step] at s1
  split at s1
  · cases s1
    exact s2
  · cases s1
theorem xcon1 {j m nL : Nat} {c : CT} {as : List Value} {h : Hp} {L : List (Option Value)} (hct : ab_cts[j]? = some c) (hm : c.1 = m) (hp : c.2.2.2.2.2.1 = []) (hv : c.2.2.2.1.1 = 1) (hT : TInv h) (ha : aOK c.2.2.1 as) (hy : ((sm_ms[m]?).map fun y => y.2.2.1) = some nL) (hL : fl_enter nL as = L) : ∃ (x : Int32) (m1 : Hp) (d0 : Nat), Ev d0 m (0, L, [], h, fl_tot) (some (.int x), m1, fl_tot) ∧ (∀ (d : Nat) (r : Option Value × Hp × Nat), Ev d m (0, L, [], h, fl_tot) r → r = (some (.int x), m1, fl_tot)) ∧ TInv m1 ∧ Fr c.2.2.2.2.1 h m1 ∧ c.2.2.2.1.2.1 ≤ x.toInt ∧ x.toInt ≤ c.2.2.2.1.2.2 := by
  obtain ⟨y, y1, y2, v, h', g1, g2, g3, g4, -⟩ := cv_all hct as h hT ha (fun p hp' => by rw [hp] at hp'; cases hp')
  rw [hm] at y1 g1
  have hn : y.2.2.1 = nL := by
    rw [y1] at hy
    exact Option.some.inj hy
  rw [hn, hL] at g1
  unfold retOK at g3
  rw [if_neg (by rw [hv]; decide)] at g3
  obtain ⟨w, rfl, hw⟩ := g3
  unfold valOK at hw
  rw [hv] at hw
  obtain ⟨x, rfl, x1, x2⟩ := hw
  exact ⟨x, h', _, g1, fun d r e => ev_det e g1, g2, g4, x1, x2⟩
/-! the plan's next -/
def plF (h : Hp) (a k : Nat) : Hp := (fun r j => if r = 219 ∧ a ≤ j ∧ j < k then Int32.ofInt (-1) else h.1 r j, h.2)
theorem plF_0 {h : Hp} {a : Nat} : plF h a a = h := by
  apply Prod.ext
  · funext r j
    show (if r = 219 ∧ a ≤ j ∧ j < a then _ else _) = _
    rw [if_neg (by omega)]
  · rfl
theorem plF_s {h : Hp} {a k : Nat} (hk : a ≤ k) : fl_setI (plF h a k) 219 k (Int32.ofInt (-1)) = plF h a (k + 1) := by
  apply Prod.ext
  · funext r j
    show (if r = 219 ∧ j = k then Int32.ofInt (-1) else if r = 219 ∧ a ≤ j ∧ j < k then Int32.ofInt (-1) else h.1 r j) = if r = 219 ∧ a ≤ j ∧ j < k + 1 then Int32.ofInt (-1) else h.1 r j
    by_cases z : r = 219 ∧ j = k
    · rw [if_pos z, if_pos (by omega)]
    · rw [if_neg z]
      by_cases y : r = 219 ∧ a ≤ j ∧ j < k
      · rw [if_pos y, if_pos (by omega)]
      · rw [if_neg y, if_neg (by omega)]
  · rfl
theorem plan_l {h : Hp} {d a : Nat} {s c : Int32} {r : Option Value × Hp × Nat} (S : SH h.2) : ∀ (f k : Nat), a ≤ k → k ≤ 600 → 600 - k ≤ f → Ev d 134 (78, [some (.ref 218), some (.int s), some (.int c), some (.int (Int32.ofNat k))], [], plF h a k, fl_tot) r → r = (some (.int (Int32.ofInt 1)), plF h a 600, fl_tot) := by
  intro f
  induction f with
  | zero =>
    intro k h1 h2 h3 e
    have hk : k = 600 := by omega
    subst hk
    rcases x_plan_4 (h := plF h a 600) S e with ⟨-, w⟩ | ⟨q, -⟩
    · exact w
    · rw [i32n (by omega)] at q
      omega
  | succ f ih =>
    intro k h1 h2 h3 e
    rcases x_plan_4 (h := plF h a k) S e with ⟨q, w⟩ | ⟨q, e⟩
    · rw [i32n (by omega)] at q
      have hk : k = 600 := by omega
      rw [w, hk]
    · rw [i32n (by omega)] at q
      rw [o32 (by omega), o32c (by omega), plF_s h1] at e
      exact ih (k + 1) (by omega) (by omega) (by omega) e
/-- the plan behind a change at step s to clerk c -/
def planH (h : Hp) (s c : Nat) : Hp := plF (fl_setI (fl_copy h 210 0 219 0 s) 219 s (Int32.ofNat c)) (s + 1) 600
theorem planH_no {h : Hp} {s c r : Nat} (hr : r ≠ 219) (j : Nat) : (planH h s c).1 r j = h.1 r j := by
  show (if r = 219 ∧ s + 1 ≤ j ∧ j < 600 then _ else (if r = 219 ∧ j = s then _ else (if r = 219 then _ else h.1 r j))) = _
  rw [if_neg (by omega), if_neg (by omega), if_neg hr]
theorem plan_c {h : Hp} (S : SH h.2) {s d : Nat} (hs : s < 600) {o3 : Option Value} {r : Option Value × Hp × Nat} : ∀ (f c : Nat), c ≤ 5 → 5 - c ≤ f → Ev d 134 (26, [some (.ref 218), some (.int (Int32.ofNat s)), some (.int (Int32.ofNat c)), o3], [], h, fl_tot) r → ((∀ c' : Nat, c ≤ c' → c' < 5 → chB (h.1 211 s) (Int32.ofNat c') = false) ∧ ∃ o2, Ev d 134 (10, [some (.ref 218), some (.int (Int32.ofNat s + Int32.ofInt (-1))), o2, o3], [], h, fl_tot) r) ∨ ∃ c1 : Nat, c ≤ c1 ∧ c1 < 5 ∧ chB (h.1 211 s) (Int32.ofNat c1) = true ∧ (∀ c' : Nat, c ≤ c' → c' < c1 → chB (h.1 211 s) (Int32.ofNat c') = false) ∧ r = (some (.int (Int32.ofInt 1)), planH h s c1, fl_tot) := by
  intro f
  induction f with
  | zero =>
    intro c h1 h2 e
    rcases x_plan_2 S e with ⟨-, e⟩ | ⟨q, -⟩ | ⟨q, -⟩
    · exact Or.inl ⟨fun c' z1 z2 => by omega, _, e⟩
    · rw [i32n (by omega)] at q
      omega
    · rw [i32n (by omega)] at q
      omega
  | succ f ih =>
    intro c h1 h2 e
    rcases x_plan_2 S e with ⟨q, e⟩ | ⟨q, qb, e⟩ | ⟨q, qb, e⟩
    · rw [i32n (by omega)] at q
      exact Or.inl ⟨fun c' z1 z2 => by omega, _, e⟩
    · rw [i32n (by omega)] at q
      rw [o32c (by omega)] at qb
      have e := b41 e (show fl_code 134 64 = some (41, [], 67) by decide +kernel)
      rw [o32c (by omega), show (Int32.ofInt 0).toNatClampNeg = 0 from rfl] at e
      have e := x_plan_3 (h := fl_copy h 210 0 219 0 s) S e
      rw [o32 (by omega), o32c (by omega), ← plF_0 (h := fl_setI (fl_copy h 210 0 219 0 s) 219 s (Int32.ofNat c)) (a := s + 1)] at e
      exact Or.inr ⟨c, Nat.le_refl _, by omega, decide_eq_true qb, fun c' z1 z2 => by omega, plan_l (h := fl_setI (fl_copy h 210 0 219 0 s) 219 s (Int32.ofNat c)) S 600 (s + 1) (by omega) (by omega) (by omega) e⟩
    · rw [i32n (by omega)] at q
      rw [o32c (by omega)] at qb
      rw [o32 (by omega)] at e
      have fb : chB (h.1 211 s) (Int32.ofNat c) = false := decide_eq_false (fun z => z qb)
      rcases ih (c + 1) (by omega) (by omega) e with ⟨a, e⟩ | ⟨c1, a1, a2, a3, a4, a5⟩
      · refine Or.inl ⟨fun c' z1 z2 => ?_, e⟩
        by_cases y : c' = c
        · rw [y]; exact fb
        · exact a c' (by omega) z2
      · refine Or.inr ⟨c1, by omega, a2, a3, fun c' z1 z2 => ?_, a5⟩
        by_cases y : c' = c
        · rw [y]; exact fb
        · exact a4 c' (by omega) z2
theorem n_sub : ((List.range 601).all fun n => decide (Int32.ofNat (n + 1) - Int32.ofInt 1 = Int32.ofNat n ∧ Int32.ofNat n + Int32.ofInt (-1) = Int32.ofNat n - Int32.ofInt 1)) = true := by decide +kernel
theorem nsub {n : Nat} (h : n ≤ 600) : Int32.ofNat (n + 1) - Int32.ofInt 1 = Int32.ofNat n ∧ Int32.ofNat n + Int32.ofInt (-1) = Int32.ofNat n - Int32.ofInt 1 := of_decide_eq_true (List.all_eq_true.mp n_sub n (List.mem_range.mpr (by omega)))
/-- no other clerk is left at step s -/
def NOB (h : Hp) (s : Nat) : Prop := ∀ c : Nat, (h.1 210 s).toInt < c → c < 5 → chB (h.1 211 s) (Int32.ofNat c) = false
/-- the step and the clerk at which the plan changes -/
def NXT (h : Hp) (n s c : Nat) : Prop := s < n ∧ c < 5 ∧ (h.1 210 s).toInt < c ∧ chB (h.1 211 s) (Int32.ofNat c) = true ∧ (∀ c' : Nat, (h.1 210 s).toInt < c' → c' < c → chB (h.1 211 s) (Int32.ofNat c') = false) ∧ ∀ s' : Nat, s < s' → s' < n → NOB h s'
theorem x_plan_n {h : Hp} (S : SH h.2) {d : Nat} {o3 : Option Value} {r : Option Value × Hp × Nat} (ch : ∀ j : Nat, j < 600 → 0 ≤ (h.1 210 j).toInt ∧ (h.1 210 j).toInt ≤ 4) : ∀ (n : Nat), n ≤ 600 → ∀ o2 : Option Value, Ev d 134 (10, [some (.ref 218), some (.int (Int32.ofNat n - Int32.ofInt 1)), o2, o3], [], h, fl_tot) r → ((∀ s : Nat, s < n → NOB h s) ∧ r = (some (.int (Int32.ofInt 0)), h, fl_tot)) ∨ ∃ s c : Nat, NXT h n s c ∧ r = (some (.int (Int32.ofInt 1)), planH h s c, fl_tot) := by
  intro n
  induction n with
  | zero =>
    intro _ o2 e
    rcases x_plan_1 S e with ⟨-, w⟩ | ⟨q, -⟩
    · exact Or.inl ⟨fun s hs => by omega, w⟩
    · exact absurd q (by decide)
  | succ n ih =>
    intro hn o2 e
    rw [(nsub (by omega)).1] at e
    rcases x_plan_1 S e with ⟨q, -⟩ | ⟨-, e⟩
    · rw [i32n (by omega)] at q
      omega
    · rw [o32c (by omega)] at e
      have b := ch n (by omega)
      have k := lc_clamp b.1
      have e1 : h.1 210 n + Int32.ofInt 1 = Int32.ofNat ((h.1 210 n).toNatClampNeg + 1) := by
        apply Int32.toInt_inj.mp
        rw [add1 (y := 5) (by omega) (by omega), i32n (by omega)]
        omega
      rw [e1] at e
      rcases plan_c S (by omega) 5 _ (by omega) (by omega) e with ⟨a, o4, e⟩ | ⟨c1, a1, a2, a3, a4, a5⟩
      · have nb : NOB h n := fun c c1 c2 => a c (by omega) c2
        rw [(nsub (by omega)).2] at e
        rcases ih (by omega) o4 e with ⟨a, w⟩ | ⟨s, c, ⟨b1, b2, b3, b4, b5, b6⟩, w⟩
        · refine Or.inl ⟨fun s hs => ?_, w⟩
          by_cases y : s = n
          · rw [y]; exact nb
          · exact a s (by omega)
        · refine Or.inr ⟨s, c, ⟨by omega, b2, b3, b4, b5, fun s' z1 z2 => ?_⟩, w⟩
          by_cases y : s' = n
          · rw [y]; exact nb
          · exact b6 s' z1 (by omega)
      · exact Or.inr ⟨n, c1, ⟨by omega, a2, by omega, a3, fun c' z1 z2 => a4 c' (by omega) z2, fun s' z1 z2 => by omega⟩, a5⟩
theorem x_planNext {h : Hp} (S : SH h.2) (hT : TInv h) {d n : Nat} (hn : n ≤ 600) (en : h.1 208 5 = Int32.ofNat n) {r : Option Value × Hp × Nat} (e : Ev d 134 (0, [some (.ref 218), none, none, none], [], h, fl_tot) r) : ((∀ s : Nat, s < n → NOB h s) ∧ r = (some (.int (Int32.ofInt 0)), h, fl_tot)) ∨ ∃ s c : Nat, NXT h n s c ∧ r = (some (.int (Int32.ofInt 1)), planH h s c, fl_tot) := by
  have e := x_plan_0 S e
  rw [en] at e
  exact x_plan_n S (fun j hj => by
    obtain q := hT 210 20 600 [(1, 0, 4)] j (1, 0, 4) (by decide +kernel) (by decide +kernel) hj rfl
    exact q) n hn _ e
theorem run_done {h : Hp} (hT : TInv h) : ∃ n : Nat, n ≤ 600 ∧ h.1 208 5 = Int32.ofNat n := by
  have q : 0 ≤ (h.1 208 5).toInt ∧ (h.1 208 5).toInt ≤ 600 := hT 208 6 7 [(2, 2, 0), (2, 20, 0), (2, 21, 0), (2, 22, 0), (1, 0, 80), (1, 0, 600), (1, 0, 2)] 5 (1, 0, 600) (by decide +kernel) (by decide +kernel) (by decide) rfl
  have k := lc_clamp q.1
  refine ⟨(h.1 208 5).toNatClampNeg, by omega, ?_⟩
  apply Int32.toInt_inj.mp
  rw [i32n (by omega)]
  omega
/-! the loop -/
/-- what explore keeps until its last run -/
def XK (h0 h : Hp) : Prop := LI h ∧ TInv h ∧ ∀ r : Nat, 223 ≤ r → r < 285 → h.1 r = h0.1 r
theorem XK.of {h0 h h' : Hp} {d m : Nat} {ls : List (Option Value)} {v : Option Value} {S mods : List Nat} (K : XK h0 h) (hT : TInv h') (e : Ev d m (0, ls, [], h, fl_tot) (v, h', fl_tot)) (hm : S.contains m = true) (c : xlChk S = true) (F : Fr mods h h') (hmod : xlMods mods = true) (c222 : ∀ j : Nat, j < 600 → h'.1 222 j = h.1 222 j) : XK h0 h' := by
  have b : ∀ r : Nat, 223 ≤ r → r < 285 → h'.1 r = h.1 r := fun r h1 h2 => (F r (fun z => by
    have := List.all_eq_true.mp (xlMods_u hmod) _ z
    rw [Bool.and_eq_true, decide_eq_true_eq] at this
    have := kdb h1 h2
    omega)).1
  exact ⟨K.1.x hT e hm c F hmod b c222, hT, fun r h1 h2 => (b r h1 h2).trans (K.2.2 r h1 h2)⟩
theorem XK.no28 {h0 h h' : Hp} {d m : Nat} {ls : List (Option Value)} {v : Option Value} {S mods : List Nat} (K : XK h0 h) (hT : TInv h') (e : Ev d m (0, ls, [], h, fl_tot) (v, h', fl_tot)) (hm : S.contains m = true) (c : xlChk S = true) (F : Fr mods h h') (hmod : xlMods mods = true) (n28 : 28 ∉ mods) : XK h0 h' := K.of hT e hm c F hmod fun j _ => by rw [(F 222 (by rw [show ab_kd 222 = 28 from by decide +kernel]; exact n28)).1]
theorem kd218 : ab_kd 218 = 27 := by decide +kernel
theorem xk_judge {h0 h : Hp} (K : XK h0 h) : ∃ (m1 : Hp), (∀ (d : Nat) (r : Option Value × Hp × Nat), Ev d 131 (0, [some (.ref 218), none, none, none, none], [], h, fl_tot) r → r = (none, m1, fl_tot)) ∧ XK h0 m1 ∧ Fr [5, 6, 23, 24, 25, 26, 29] h m1 ∧ m1.1 218 7 = h.1 218 7 := by
  obtain ⟨m1, d0, e0, e1, e2, e3⟩ := xcon (j := 137) (m := 131) (nL := 5) (as := [.ref 218]) (h := h) (L := [some (.ref 218), none, none, none, none]) (show ab_cts[137]? = some (131, 17, [(2, 27, 0)], (9, 0, 0), [5, 6, 23, 24, 25, 26, 29], [], []) by rfl) rfl rfl rfl K.2.1 ⟨_, _, rfl, ⟨_, rfl, kd218⟩, rfl⟩ (by decide +kernel) rfl
  exact ⟨m1, e1, K.no28 (S := [10, 17, 18, 23, 29, 51, 52, 54, 55, 56, 61, 68, 70, 71, 72, 74, 75, 77, 97, 106, 107, 108, 109, 110, 111, 112, 113, 114, 115, 116, 117, 118, 119, 120, 121, 122, 123, 124, 131]) e2 e0 (by decide +kernel) (by decide +kernel) e3 (by decide +kernel) (by decide), e3, sf_ev (S := [10, 17, 18, 23, 29, 51, 52, 54, 55, 56, 61, 68, 70, 71, 72, 74, 75, 77, 97, 106, 107, 108, 109, 110, 111, 112, 113, 114, 115, 116, 117, 118, 119, 120, 121, 122, 123, 124, 131]) (show sfChk 5 7 [10, 17, 18, 23, 29, 51, 52, 54, 55, 56, 61, 68, 70, 71, 72, 74, 75, 77, 97, 106, 107, 108, 109, 110, 111, 112, 113, 114, 115, 116, 117, 118, 119, 120, 121, 122, 123, 124, 131] = true by decide +kernel) (by decide +kernel) e0 218 (by decide +kernel)⟩
theorem xk_see {h0 h : Hp} (K : XK h0 h) : ∃ (m1 : Hp), (∀ (d : Nat) (r : Option Value × Hp × Nat), Ev d 132 (0, [some (.ref 218), none, none, none, none, none], [], h, fl_tot) r → r = (none, m1, fl_tot)) ∧ XK h0 m1 ∧ Fr [27, 30] h m1 ∧ m1.1 218 7 = h.1 218 7 := by
  obtain ⟨m1, d0, e0, e1, e2, e3⟩ := xcon (j := 139) (m := 132) (nL := 6) (as := [.ref 218]) (h := h) (L := [some (.ref 218), none, none, none, none, none]) (show ab_cts[139]? = some (132, 1, [(2, 27, 0)], (9, 0, 0), [27, 30], [], []) by rfl) rfl rfl rfl K.2.1 ⟨_, _, rfl, ⟨_, rfl, kd218⟩, rfl⟩ (by decide +kernel) rfl
  exact ⟨m1, e1, K.no28 (S := [132, 133]) e2 e0 (by decide +kernel) (by decide +kernel) e3 (by decide +kernel) (by decide), e3, sf_ev (S := [132, 133]) (show sfChk 5 7 [132, 133] = true by decide +kernel) (by decide +kernel) e0 218 (by decide +kernel)⟩
theorem xk_go {h0 h : Hp} (K : XK h0 h) : ∃ (m1 : Hp), (∀ (d : Nat) (r : Option Value × Hp × Nat), Ev d 26 (0, [some (.ref 208), some (.ref 219), none, none, none], [], h, fl_tot) r → r = (none, m1, fl_tot)) ∧ XK h0 m1 ∧ Fr [4, 5, 6, 8, 9, 10, 11, 13, 16, 18, 19, 20, 21, 22] h m1 ∧ m1.1 218 7 = h.1 218 7 := by
  obtain ⟨m1, d0, e0, e1, e2, e3⟩ := xcon (j := 72) (m := 26) (nL := 5) (as := [.ref 208, .ref 219]) (h := h) (L := [some (.ref 208), some (.ref 219), none, none, none]) (show ab_cts[72]? = some (26, 5, [(2, 19, 0), (2, 28, 0)], (9, 0, 0), [4, 5, 6, 8, 9, 10, 11, 13, 16, 18, 19, 20, 21, 22], [], []) by rfl) rfl rfl rfl K.2.1 ⟨_, _, rfl, ⟨_, rfl, (by decide +kernel)⟩, ⟨_, _, rfl, ⟨_, rfl, (by decide +kernel)⟩, rfl⟩⟩ (by decide +kernel) rfl
  exact ⟨m1, e1, K.no28 (S := [10, 18, 26, 27, 28, 29, 30, 31, 32, 33, 34, 35, 36, 37, 38, 39, 40, 41, 42, 43, 44, 45, 46, 47, 48, 49, 50, 51, 52, 53, 54, 55, 56, 57, 58, 59, 60, 61, 62, 63, 64, 65, 66, 67, 68, 69, 70, 71, 72, 73, 74, 75, 76, 77, 78, 79, 80]) e2 e0 (by decide +kernel) (by decide +kernel) e3 (by decide +kernel) (by decide), e3, sf_ev (S := [10, 18, 26, 27, 28, 29, 30, 31, 32, 33, 34, 35, 36, 37, 38, 39, 40, 41, 42, 43, 44, 45, 46, 47, 48, 49, 50, 51, 52, 53, 54, 55, 56, 57, 58, 59, 60, 61, 62, 63, 64, 65, 66, 67, 68, 69, 70, 71, 72, 73, 74, 75, 76, 77, 78, 79, 80]) (show sfChk 5 7 [10, 18, 26, 27, 28, 29, 30, 31, 32, 33, 34, 35, 36, 37, 38, 39, 40, 41, 42, 43, 44, 45, 46, 47, 48, 49, 50, 51, 52, 53, 54, 55, 56, 57, 58, 59, 60, 61, 62, 63, 64, 65, 66, 67, 68, 69, 70, 71, 72, 73, 74, 75, 76, 77, 78, 79, 80] = true by decide +kernel) (by decide +kernel) e0 218 (by decide +kernel)⟩

theorem xk_run {h0 h : Hp} (K : XK h0 h) : ∃ (m1 : Hp), (∀ (d : Nat) (r : Option Value × Hp × Nat), Ev d 26 (0, [some (.ref 208), some (.ref 222), none, none, none], [], h, fl_tot) r → r = (none, m1, fl_tot)) ∧ XK h0 m1 ∧ Fr [4, 5, 6, 8, 9, 10, 11, 13, 16, 18, 19, 20, 21, 22] h m1 ∧ m1.1 218 7 = h.1 218 7 := by
  obtain ⟨m1, d0, e0, e1, e2, e3⟩ := xcon (j := 72) (m := 26) (nL := 5) (as := [.ref 208, .ref 222]) (h := h) (L := [some (.ref 208), some (.ref 222), none, none, none]) (show ab_cts[72]? = some (26, 5, [(2, 19, 0), (2, 28, 0)], (9, 0, 0), [4, 5, 6, 8, 9, 10, 11, 13, 16, 18, 19, 20, 21, 22], [], []) by rfl) rfl rfl rfl K.2.1 ⟨_, _, rfl, ⟨_, rfl, (by decide +kernel)⟩, ⟨_, _, rfl, ⟨_, rfl, (by decide +kernel)⟩, rfl⟩⟩ (by decide +kernel) rfl
  exact ⟨m1, e1, K.no28 (S := [10, 18, 26, 27, 28, 29, 30, 31, 32, 33, 34, 35, 36, 37, 38, 39, 40, 41, 42, 43, 44, 45, 46, 47, 48, 49, 50, 51, 52, 53, 54, 55, 56, 57, 58, 59, 60, 61, 62, 63, 64, 65, 66, 67, 68, 69, 70, 71, 72, 73, 74, 75, 76, 77, 78, 79, 80]) e2 e0 (by decide +kernel) (by decide +kernel) e3 (by decide +kernel) (by decide), e3, sf_ev (S := [10, 18, 26, 27, 28, 29, 30, 31, 32, 33, 34, 35, 36, 37, 38, 39, 40, 41, 42, 43, 44, 45, 46, 47, 48, 49, 50, 51, 52, 53, 54, 55, 56, 57, 58, 59, 60, 61, 62, 63, 64, 65, 66, 67, 68, 69, 70, 71, 72, 73, 74, 75, 76, 77, 78, 79, 80]) (show sfChk 5 7 [10, 18, 26, 27, 28, 29, 30, 31, 32, 33, 34, 35, 36, 37, 38, 39, 40, 41, 42, 43, 44, 45, 46, 47, 48, 49, 50, 51, 52, 53, 54, 55, 56, 57, 58, 59, 60, 61, 62, 63, 64, 65, 66, 67, 68, 69, 70, 71, 72, 73, 74, 75, 76, 77, 78, 79, 80] = true by decide +kernel) (by decide +kernel) e0 218 (by decide +kernel)⟩
theorem f222 {h : Hp} {s j : Nat} {n : Nat} {v : Int32} : (fl_fill h 219 n v).1 222 j = h.1 222 j := by
  show (if 222 = 219 ∧ j < n then v else h.1 222 j) = _
  rw [if_neg (by omega)]
/-- explore's beginning, its end, the plan's next keep it too -/
theorem xk_beg {h0 h : Hp} (K : XK h0 h) : ∃ m1 : Hp, (∀ (d : Nat) (r : Option Value × Hp × Nat), Ev d 130 (0, [some (.ref 218)], [], h, fl_tot) r → r = (none, m1, fl_tot)) ∧ XK h0 m1 ∧ m1 = fl_setI (fl_fill (fl_fill h 219 600 (Int32.ofInt (-1))) 220 5 (Int32.ofInt 0)) 218 6 (Int32.ofInt 0) := by
  obtain ⟨m1, d0, e0, e1, e2, e3⟩ := xcon (j := 136) (m := 130) (nL := 1) (as := [.ref 218]) (h := h) (L := [some (.ref 218)]) (show ab_cts[136]? = some (130, 1, [(2, 27, 0)], (9, 0, 0), [27, 28, 29], [], []) by rfl) rfl rfl rfl K.2.1 ⟨_, _, rfl, ⟨_, rfl, kd218⟩, rfl⟩ (by decide +kernel) rfl
  obtain ⟨-, q, -⟩ := tri (x_ebeg K.1.1.1 e0)
  refine ⟨m1, e1, K.of (S := [10, 130]) e2 e0 (by decide +kernel) (by decide +kernel) e3 (by decide +kernel) fun j _ => ?_, q⟩
  rw [q, setI_no (by omega)]
  show (if 222 = 220 ∧ j < 5 then Int32.ofInt 0 else if 222 = 219 ∧ j < 600 then Int32.ofInt (-1) else h.1 222 j) = _
  rw [if_neg (by omega), if_neg (by omega)]
theorem xk_plan {h0 h : Hp} (K : XK h0 h) {n : Nat} (hn : n ≤ 600) (en : h.1 208 5 = Int32.ofNat n) : ∃ (x : Int32) (m1 : Hp), (∀ (d : Nat) (r : Option Value × Hp × Nat), Ev d 134 (0, [some (.ref 218), none, none, none], [], h, fl_tot) r → r = (some (.int x), m1, fl_tot)) ∧ XK h0 m1 ∧ (0 ≤ x.toInt ∧ x.toInt ≤ 1) ∧ (((∀ s : Nat, s < n → NOB h s) ∧ x = Int32.ofInt 0 ∧ m1 = h) ∨ ∃ s c : Nat, NXT h n s c ∧ x = Int32.ofInt 1 ∧ m1 = planH h s c) := by
  obtain ⟨x, m1, d0, e0, e1, e2, e3, e4, e5⟩ := xcon1 (j := 140) (m := 134) (nL := 4) (as := [.ref 218]) (h := h) (L := [some (.ref 218), none, none, none]) (show ab_cts[140]? = some (134, 0, [(2, 27, 0)], (1, 0, 1), [28], [], []) by rfl) rfl rfl rfl K.2.1 ⟨_, _, rfl, ⟨_, rfl, kd218⟩, rfl⟩ (by decide +kernel) rfl
  have P := x_planNext K.1.1.1 K.2.1 hn en e0
  refine ⟨x, m1, e1, K.of (S := [134]) e2 e0 (by decide +kernel) (by decide +kernel) e3 (by decide +kernel) fun j _ => ?_, ⟨e4, e5⟩, ?_⟩
  · rcases P with ⟨-, w⟩ | ⟨s, c, -, w⟩
    · rw [(tri w).2.1]
    · rw [(tri w).2.1, planH_no (by decide)]
  · rcases P with ⟨a, w⟩ | ⟨s, c, a, w⟩
    · obtain ⟨w1, w2, -⟩ := tri w
      cases w1
      exact Or.inl ⟨a, rfl, w2⟩
    · obtain ⟨w1, w2, -⟩ := tri w
      cases w1
      exact Or.inr ⟨s, c, a, rfl, w2⟩
theorem xk_end {h0 h : Hp} (K : XK h0 h) {k : Nat} {mr : Int32} (hk : k ≤ 60) (hmr : 0 ≤ mr.toInt ∧ mr.toInt ≤ 1) : ∃ m1 : Hp, (∀ (d : Nat) (r : Option Value × Hp × Nat), Ev d 135 (0, [some (.ref 218), some (.int (Int32.ofNat k)), some (.int mr)], [], h, fl_tot) r → r = (none, m1, fl_tot)) ∧ XK h0 m1 ∧ m1 = fl_setI (fl_setI (fl_setI h 220 0 (if mr.toInt = 0 then Int32.ofInt 1 else Int32.ofInt 0)) 220 4 (h.1 218 6)) 218 7 (h.1 218 7 + Int32.ofNat k) := by
  have b : (0 : Int) ≤ (Int32.ofNat k).toInt ∧ (Int32.ofNat k).toInt ≤ 60 := by rw [i32n (by omega)]; omega
  obtain ⟨m1, d0, e0, e1, e2, e3⟩ := xcon (j := 141) (m := 135) (nL := 3) (as := [.ref 218, .int (Int32.ofNat k), .int mr]) (h := h) (L := [some (.ref 218), some (.int (Int32.ofNat k)), some (.int mr)]) (show ab_cts[141]? = some (135, 0, [(2, 27, 0), (1, 0, 60), (1, 0, 1)], (9, 0, 0), [27, 29], [], []) by rfl) rfl rfl rfl K.2.1 ⟨_, _, rfl, ⟨_, rfl, kd218⟩, ⟨_, _, rfl, ⟨_, rfl, b.1, b.2⟩, ⟨_, _, rfl, ⟨_, rfl, hmr.1, hmr.2⟩, rfl⟩⟩⟩ (by decide +kernel) rfl
  have q : m1 = fl_setI (fl_setI (fl_setI h 220 0 (if mr.toInt = 0 then Int32.ofInt 1 else Int32.ofInt 0)) 220 4 (h.1 218 6)) 218 7 (h.1 218 7 + Int32.ofNat k) := by
    rcases x_eend K.1.1.1 e0 with ⟨a, w⟩ | ⟨a, w⟩
    · rw [if_pos a]
      exact (tri w).2.1
    · rw [if_neg a]
      exact (tri w).2.1
  refine ⟨m1, e1, K.of (S := [135]) e2 e0 (by decide +kernel) (by decide +kernel) e3 (by decide +kernel) fun j _ => ?_, q⟩
  rw [q, setI_no (by omega), setI_no (by omega), setI_no (by omega)]
theorem expl_l {h0 : Hp} {mo : Int32} (hmo : mo.toInt ≤ 60) {d : Nat} {r : Option Value × Hp × Nat} : ∀ (f k : Nat) (mr : Int32) (h : Hp), XK h0 h → k ≤ 60 → 60 - k ≤ f → 0 ≤ mr.toInt ∧ mr.toInt ≤ 1 → Ev d 129 (43, [some (.ref 0), some (.int mo), some (.int mr), some (.int (Int32.ofNat k))], [], h, fl_tot) r → ∃ (k' : Nat) (mr' : Int32) (h' : Hp), k' ≤ 60 ∧ XK h0 h' ∧ (0 ≤ mr'.toInt ∧ mr'.toInt ≤ 1) ∧ Ev d 129 (94, [some (.ref 0), some (.int mo), some (.int mr'), some (.int (Int32.ofNat k'))], [], h', fl_tot) r := by
  intro f
  induction f with
  | zero =>
    intro k mr h K hk hf bm e
    rcases x_expl_2 K.1.1.1 e with ⟨-, e⟩ | ⟨-, -, e⟩ | ⟨q, -⟩
    · exact ⟨k, mr, h, hk, K, bm, e⟩
    · exact ⟨k, mr, h, hk, K, bm, e⟩
    · rw [i32n (by omega)] at q
      omega
  | succ f ih =>
    intro k mr h K hk hf bm e
    rcases x_expl_2 K.1.1.1 e with ⟨-, e⟩ | ⟨-, -, e⟩ | ⟨q, -, e⟩
    · exact ⟨k, mr, h, hk, K, bm, e⟩
    · exact ⟨k, mr, h, hk, K, bm, e⟩
    · rw [i32n (by omega)] at q
      obtain ⟨d1, v1, h1, n1, z1, ec1, e⟩ := b_call (m2 := 26) (k := 1) (nL := 5) (as := [.ref 208, .ref 219]) (rest := []) (L := [some (.ref 208), some (.ref 219), none, none, none]) e (show fl_code 129 63 = some (18, [((26 : Nat) : Int), ((1 : Nat) : Int)], 66) by decide +kernel) rfl (by decide +kernel) rfl rfl rfl
      obtain ⟨g1, g1a, K1, -⟩ := xk_go K
      obtain ⟨w1, w2, w3⟩ := tri (g1a _ _ ec1)
      rw [w1, w2, w3] at e
      have e : Ev d 129 (66, [some (.ref 0), some (.int mo), some (.int mr), some (.int (Int32.ofNat k))], [], g1, fl_tot) r := e
      have e := x_expl_3 K1.1.1.1 e
      obtain ⟨d2, v2, h2, n2, z2, ec2, e⟩ := b_call (m2 := 131) (k := 0) (nL := 5) (as := [.ref 218]) (rest := []) (L := [some (.ref 218), none, none, none, none]) e (show fl_code 129 70 = some (18, [((131 : Nat) : Int), ((0 : Nat) : Int)], 73) by decide +kernel) rfl (by decide +kernel) rfl rfl rfl
      obtain ⟨g2, g2a, K2, -⟩ := xk_judge K1
      obtain ⟨w1, w2, w3⟩ := tri (g2a _ _ ec2)
      rw [w1, w2, w3] at e
      have e : Ev d 129 (73, [some (.ref 0), some (.int mo), some (.int mr), some (.int (Int32.ofNat k))], [], g2, fl_tot) r := e
      have e := x_expl_4 K2.1.1.1 e
      obtain ⟨d3, v3, h3, n3, z3, ec3, e⟩ := b_call (m2 := 132) (k := 0) (nL := 6) (as := [.ref 218]) (rest := []) (L := [some (.ref 218), none, none, none, none, none]) e (show fl_code 129 77 = some (18, [((132 : Nat) : Int), ((0 : Nat) : Int)], 80) by decide +kernel) rfl (by decide +kernel) rfl rfl rfl
      obtain ⟨g3, g3a, K3, -⟩ := xk_see K2
      obtain ⟨w1, w2, w3⟩ := tri (g3a _ _ ec3)
      rw [w1, w2, w3] at e
      have e : Ev d 129 (80, [some (.ref 0), some (.int mo), some (.int mr), some (.int (Int32.ofNat k))], [], g3, fl_tot) r := e
      have e := x_expl_5 K3.1.1.1 e
      obtain ⟨d4, v4, h4, n4, z4, ec4, e⟩ := b_call (m2 := 134) (k := 0) (nL := 4) (as := [.ref 218]) (rest := []) (L := [some (.ref 218), none, none, none]) e (show fl_code 129 84 = some (18, [((134 : Nat) : Int), ((0 : Nat) : Int)], 87) by decide +kernel) rfl (by decide +kernel) rfl rfl rfl
      obtain ⟨n, hn, en⟩ := run_done K3.2.1
      obtain ⟨x, g4, g4a, K4, bx, -⟩ := xk_plan K3 hn en
      obtain ⟨w1, w2, w3⟩ := tri (g4a _ _ ec4)
      rw [w1, w2, w3] at e
      have e : Ev d 129 (87, [some (.ref 0), some (.int mo), some (.int mr), some (.int (Int32.ofNat k))], [.int x], g4, fl_tot) r := e
      have e := x_expl_6 K4.1.1.1 e
      rw [o32 (by omega)] at e
      exact ih (k + 1) x g4 K4 (by omega) (by omega) bx e
/-- explore on the class's side: refused, or some runs, then run's own -/
theorem x_explore {h : Hp} {mo : Int32} {d : Nat} {r : Option Value × Hp × Nat} (U : LI h) (hT : TInv h) (e : Ev d 129 (0, [some (.ref 0), some (.int mo), none, none], [], h, fl_tot) r) : (r = (some (.int (Int32.ofInt (-2))), h, fl_tot) ∨ r = (some (.int (Int32.ofInt (-4))), h, fl_tot)) ∨ ∃ (k d' : Nat) (hL hR : Hp), XK h hL ∧ Ev d' 26 (0, [some (.ref 208), some (.ref 222), none, none, none], [], hL, fl_tot) (none, hR, fl_tot) ∧ XK h hR ∧ r = (some (.int (Int32.ofNat k)), fl_setI hR 0 5 (Int32.ofInt 1), fl_tot) := by
  have K : XK h h := ⟨U, hT, fun _ _ _ => rfl⟩
  rcases x_expl_0 K.1.1.1 e with ⟨-, w⟩ | ⟨q1, q2, q3, e⟩ | ⟨-, -, -, w⟩ | ⟨-, -, w⟩
  · exact Or.inl (Or.inl w)
  · refine Or.inr ?_
    obtain ⟨d1, v1, h1, n1, z1, ec1, e⟩ := b_call (m2 := 130) (k := 0) (nL := 1) (as := [.ref 218]) (rest := []) (L := [some (.ref 218)]) e (show fl_code 129 36 = some (18, [((130 : Nat) : Int), ((0 : Nat) : Int)], 39) by decide +kernel) rfl (by decide +kernel) rfl rfl rfl
    obtain ⟨g1, g1a, K1, -⟩ := xk_beg K
    obtain ⟨w1, w2, w3⟩ := tri (g1a _ _ ec1)
    rw [w1, w2, w3] at e
    have e : Ev d 129 (39, [some (.ref 0), some (.int mo), none, none], [], g1, fl_tot) r := e
    have e := x_expl_1 K1.1.1.1 e
    obtain ⟨k, mr, h2, hk, K2, bm, e⟩ := expl_l q2 60 0 _ g1 K1 (by omega) (by omega) (by decide) e
    have e := x_expl_7 K2.1.1.1 e
    obtain ⟨d3, v3, h3, n3, z3, ec3, e⟩ := b_call (m2 := 135) (k := 2) (nL := 3) (as := [.ref 218, .int (Int32.ofNat k), .int mr]) (rest := []) (L := [some (.ref 218), some (.int (Int32.ofNat k)), some (.int mr)]) e (show fl_code 129 100 = some (18, [((135 : Nat) : Int), ((2 : Nat) : Int)], 103) by decide +kernel) rfl (by decide +kernel) rfl rfl rfl
    obtain ⟨g3, g3a, K3, -⟩ := xk_end K2 hk bm
    obtain ⟨w1, w2, w3⟩ := tri (g3a _ _ ec3)
    rw [w1, w2, w3] at e
    have e : Ev d 129 (103, [some (.ref 0), some (.int mo), some (.int mr), some (.int (Int32.ofNat k))], [], g3, fl_tot) r := e
    have e := x_expl_8 K3.1.1.1 e
    obtain ⟨d4, v4, h4, n4, z4, ec4, e⟩ := b_call (m2 := 26) (k := 1) (nL := 5) (as := [.ref 208, .ref 222]) (rest := []) (L := [some (.ref 208), some (.ref 222), none, none, none]) e (show fl_code 129 111 = some (18, [((26 : Nat) : Int), ((1 : Nat) : Int)], 114) by decide +kernel) rfl (by decide +kernel) rfl rfl rfl
    obtain ⟨g4, g4a, K4, -⟩ := xk_run K3
    obtain ⟨w1, w2, w3⟩ := tri (g4a _ _ ec4)
    rw [w1, w2, w3] at e ec4
    have e : Ev d 129 (114, [some (.ref 0), some (.int mo), some (.int mr), some (.int (Int32.ofNat k))], [], g4, fl_tot) r := e
    exact ⟨k, d4, g3, g4, K3, ec4, K4, x_expl_9 K4.1.1.1 e⟩
  · exact Or.inl (Or.inr w)
  · exact Or.inl (Or.inl w)
theorem x_expl_222 {h h' : Hp} {mo : Int32} {d : Nat} {w : Value} (U : LI h) (hT : TInv h) (e : Ev d 129 (0, [some (.ref 0), some (.int mo), none, none], [], h, fl_tot) (some w, h', fl_tot)) : ∀ j : Nat, j < 600 → h'.1 222 j = h.1 222 j := fun j hj => by
  rcases x_explore U hT e with (w | w) | ⟨k, d', hL, hR, -, -, K, w⟩
  · rw [(tri w).2.1]
  · rw [(tri w).2.1]
  · rw [(tri w).2.1, setI_no (by omega), K.1.2.1 j hj, K.2.2 233 (by decide) (by decide), U.2.1 j hj]
