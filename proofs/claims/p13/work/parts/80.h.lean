
set_option maxRecDepth 20000
/-! HOW MANY ARE ABLE, AND WHICH -/
def cntA (h : Hp) (c : Int) : Int := sumN 5 (fun j => if c ≤ j ∧ j < rd 31 4 h then ableV h j else 0)
theorem cntA_bd (h : Hp) (c : Int) : 0 ≤ cntA h c ∧ cntA h c ≤ 5 := sumN_bd (n := 5) fun i _ _ => by
  have := ableV_bd h i
  split <;> omega
theorem cntA_step {h : Hp} {c : Int} (b_c : 0 ≤ c ∧ c < 5) (hc : c < rd 31 4 h) : cntA h c = cntA h (c + 1) + ableV h c := by
  have := sumN_upd (n := 5) (f := fun j => if c + 1 ≤ j ∧ j < rd 31 4 h then ableV h j else 0) (g := fun j => if c ≤ j ∧ j < rd 31 4 h then ableV h j else 0) (j := c) b_c.1 (by omega) (fun i q1 q2 q3 => by
    show (if c ≤ i ∧ i < rd 31 4 h then ableV h i else 0) = (if c + 1 ≤ i ∧ i < rd 31 4 h then ableV h i else 0)
    by_cases e : c ≤ i ∧ i < rd 31 4 h
    · rw [if_pos e, if_pos (by omega)]
    · rw [if_neg e, if_neg (by omega)])
  simp only [if_neg (show ¬ (c + 1 ≤ c ∧ c < rd 31 4 h) by omega), if_pos (show c ≤ c ∧ c < rd 31 4 h by omega)] at this
  unfold cntA
  omega
theorem cntA_end {h : Hp} {c : Int} (hc : rd 31 4 h ≤ c) : cntA h c = 0 := by
  have e : sumN 5 (fun _ => 0) = 0 := rfl
  unfold cntA
  refine (sumN_eq fun i q1 q2 => ?_).trans e
  rw [if_neg (by omega)]
theorem cntA_mono {h : Hp} {c c' : Int} (hc : c ≤ c') : cntA h c' ≤ cntA h c := sumN_le fun i q1 q2 => by
  have := ableV_bd h i
  split
  · rw [if_pos (by omega)]; exact Int.le_refl _
  · split <;> omega
/-- the i-th one that is able -/
def isNth (h : Hp) (i v : Int) : Prop := 0 ≤ v ∧ v < rd 31 4 h ∧ ableV h v = 1 ∧ cntA h v = cntA h 0 - i
theorem isNth_eq {h g : Hp} {i v w : Int} (hT : TInv h) (e4 : rd 31 4 g = rd 31 4 h) (e : ∀ c, 0 ≤ c → c < rd 31 4 h → ableV g c = ableV h c) (hv : isNth h i v) (hw : isNth g i w) : v = w := by
  have b4 : 0 ≤ rd 31 4 h ∧ rd 31 4 h ≤ 5 := rdt_ok hT 31 4
  have ec : ∀ c, 0 ≤ c → cntA g c = cntA h c := fun c hc => by
    unfold cntA
    rw [e4]
    refine sumN_eq fun i q1 q2 => ?_
    by_cases z : c ≤ i ∧ i < rd 31 4 h
    · rw [if_pos z, if_pos z, e i (by omega) z.2]
    · rw [if_neg z, if_neg z]
  obtain ⟨v1, v2, v3, v4⟩ := hv
  obtain ⟨w1, w2, w3, w4⟩ := hw
  rw [ec w w1, ec 0 (by omega)] at w4
  rw [e4] at w2
  rw [e w w1 w2] at w3
  have sv := cntA_step (h := h) (c := v) (by omega) v2
  have sw := cntA_step (h := h) (c := w) (by omega) w2
  by_cases h1 : v < w
  · have := cntA_mono (h := h) (c := v + 1) (c' := w) (by omega)
    omega
  · by_cases h2 : w < v
    · have := cntA_mono (h := h) (c := w + 1) (c' := v) (by omega)
      omega
    · omega
theorem c_am_l {h : Hp} (hT : TInv h) (A : ∀ c, 0 ≤ c → c < rd 31 4 h → AbPre h c) : ∀ (m : Nat) (n c : Int) (ls : List (Option Value)), 5 - c < m → (0 ≤ n ∧ n ≤ c) → (0 ≤ c ∧ c ≤ 5) → n + cntA h c = cntA h 0 → LVs [some (rv 31), some (iv n), some (iv c)] ls → ∀ d, 6 ≤ d → Ev d 207 (4, ls, [], h, fl_tot) (some (iv (cntA h 0)), h, fl_tot) := by
  intro m
  induction m with
  | zero => intro n c ls h1 h2 h3; omega
  | succ m ih =>
    intro n c ls h1 b_n b_c hs hl d hd
    have b4 : 0 ≤ rd 31 4 h ∧ rd 31 4 h ≤ 5 := rdt_ok hT 31 4
    rcases s207l hT (n := n) (by omega) b_c hl with ⟨clerks4, f0, rfl, f2, T, K⟩ | ⟨clerks4, f0, f1, rfl, f3, T, lv, Hl, K⟩
    · have := cntA_end (h := h) (c := c) (by omega)
      exact ret_eq (K d (by omega)) (by omega)
    · have st := cntA_step (h := h) (c := c) (by omega) (by omega)
      have a := c_isAble hT (c := c) (by omega) (A c (by omega) (by omega))
      have ab := ableV_bd h c
      have K0 := K
      obtain ⟨d, rfl⟩ : ∃ d', d = d' + 1 := ⟨d - 1, by omega⟩
      refine K0 d _ _ _ (by omega) (a d (by omega)) ?_
      rcases s207b hT (n := n) (by omega) (c := c) (by omega) (v := ableV h c) (by omega) (n2 := n) (by omega) Hl with ⟨f0, f1, T, lv, Hl, K⟩ | ⟨f0, f1, T, lv, Hl, K⟩
      · exact K (d + 1) _ (by omega) (ih n (c + 1) lv (by omega) (by omega) (by omega) (by omega) Hl (d + 1) (by omega))
      · exact K (d + 1) _ (by omega) (ih (n + 1) (c + 1) lv (by omega) (by omega) (by omega) (by omega) Hl (d + 1) (by omega))
theorem c_ableMany {h : Hp} (hT : TInv h) (A : ∀ c, 0 ≤ c → c < rd 31 4 h → AbPre h c) : ∀ d, 6 ≤ d → Ev d 207 (0, fl_enter 3 [rv 31], [], h, fl_tot) (some (iv (cntA h 0)), h, fl_tot) := by
  intro d hd
  obtain ⟨T, lv, Hl, K⟩ := s207 hT (LVs.self (fl_enter 3 [rv 31]))
  exact K d _ (by omega) (c_am_l hT A 6 0 0 lv (by omega) (by omega) (by omega) (by omega) Hl d hd)
theorem c_aa_l {h : Hp} (hT : TInv h) (A : ∀ c, 0 ≤ c → c < rd 31 4 h → AbPre h c) {i : Int} (b_i : 0 ≤ i ∧ i ≤ 4) : ∀ (m : Nat) (left c : Int) (ls : List (Option Value)), 5 - c < m → (0 ≤ left ∧ left ≤ 4) → (0 ≤ c ∧ c ≤ 5) → left < cntA h c → cntA h c - left = cntA h 0 - i → LVs [some (rv 31), some (iv i), some (iv left), some (iv c)] ls → ∃ v, isNth h i v ∧ ∀ d, 6 ≤ d → Ev d 208 (4, ls, [], h, fl_tot) (some (iv v), h, fl_tot) := by
  intro m
  induction m with
  | zero => intro left c ls h1 h2 h3; omega
  | succ m ih =>
    intro left c ls h1 b_left b_c hlt he hl
    have b4 : 0 ≤ rd 31 4 h ∧ rd 31 4 h ≤ 5 := rdt_ok hT 31 4
    have hc : c < rd 31 4 h := Classical.byContradiction fun z => by
      have := cntA_end (h := h) (c := c) (by omega)
      omega
    have st := cntA_step (h := h) (c := c) (by omega) hc
    have a := c_isAble hT (c := c) (by omega) (A c (by omega) hc)
    have ab := ableV_bd h c
    obtain ⟨T, lv, Hl, K⟩ := s208l hT b_i b_left (c := c) (by omega) hl
    have K0 := K
    rcases s208b hT b_i b_left (c := c) (by omega) (v := ableV h c) (by omega) Hl with ⟨f0, f1, T, lv, Hl, K⟩ | ⟨f0, f1, f2, f3, T, K⟩ | ⟨f0, f1, f2, f3, T, lv, Hl, K⟩
    · have K1 := K
      rcases s208c hT b_i b_left (c := c) (by omega) (v := ableV h c) (by omega) (l2 := left) (by omega) Hl with ⟨f0, f1, T, lv, Hl, K⟩ | ⟨f0, f1, T, lv, Hl, K⟩
      · obtain ⟨v, v1, v2⟩ := ih left (c + 1) lv (by omega) (by omega) (by omega) (by omega) (by omega) Hl
        refine ⟨v, v1, fun d hd => ?_⟩
        obtain ⟨d, rfl⟩ : ∃ d', d = d' + 1 := ⟨d - 1, by omega⟩
        exact K0 d _ _ _ (by omega) (a d (by omega)) (K1 d _ _ _ (by omega) (a d (by omega)) (K (d + 1) _ (by omega) (v2 (d + 1) (by omega))))
      · exfalso; omega
    · refine ⟨c, ⟨by omega, hc, by omega, by omega⟩, fun d hd => ?_⟩
      obtain ⟨d, rfl⟩ : ∃ d', d = d' + 1 := ⟨d - 1, by omega⟩
      exact K0 d _ _ _ (by omega) (a d (by omega)) (K (d + 1) (by omega))
    · have K1 := K
      rcases s208c hT b_i b_left (c := c) (by omega) (v := ableV h c) (by omega) (l2 := left) (by omega) Hl with ⟨f0, f1, T, lv, Hl, K⟩ | ⟨f0, f1, T, lv, Hl, K⟩
      · exfalso; omega
      · obtain ⟨v, v1, v2⟩ := ih (left + -1) (c + 1) lv (by omega) (by omega) (by omega) (by omega) (by omega) Hl
        refine ⟨v, v1, fun d hd => ?_⟩
        obtain ⟨d, rfl⟩ : ∃ d', d = d' + 1 := ⟨d - 1, by omega⟩
        exact K0 d _ _ _ (by omega) (a d (by omega)) (K1 d _ _ _ (by omega) (a d (by omega)) (K (d + 1) _ (by omega) (v2 (d + 1) (by omega))))
theorem c_ableAt {h : Hp} (hT : TInv h) (A : ∀ c, 0 ≤ c → c < rd 31 4 h → AbPre h c) {i : Int} (b_i : 0 ≤ i ∧ i ≤ 4) (hi : i < cntA h 0) : ∃ v, isNth h i v ∧ ∀ d, 6 ≤ d → Ev d 208 (0, fl_enter 4 [rv 31, iv i], [], h, fl_tot) (some (iv v), h, fl_tot) := by
  obtain ⟨T, lv, Hl, K⟩ := s208 hT b_i (LVs.self (fl_enter 4 [rv 31, iv i]))
  obtain ⟨v, v1, v2⟩ := c_aa_l hT A b_i 6 i 0 lv (by omega) (by omega) (by omega) (by omega) (by omega) Hl
  exact ⟨v, v1, fun d hd => K d _ (by omega) (v2 d hd)⟩
/-! A RUN IS WEIGHED -/
theorem c_df_l {h : Hp} (hT : TInv h) {a b : Int} (b_a : 0 ≤ a ∧ a ≤ 59) (b_b : 0 ≤ b ∧ b ≤ 59) : ∀ (m : Nat) (k : Int) (ls : List (Option Value)), 80 - k < m → (0 ≤ k ∧ k ≤ 80) → LVs [some (rv 31), some (iv a), some (iv b), some (iv k)] ls → ∃ v, (0 ≤ v ∧ v ≤ 1) ∧ ∀ d, 3 ≤ d → Ev d 210 (2, ls, [], h, fl_tot) (some (iv v), h, fl_tot) := by
  intro m
  induction m with
  | zero => intro k ls h1 h2; omega
  | succ m ih =>
    intro k ls h1 b_k hl
    rcases s210l hT b_a b_b b_k hl with ⟨f0, f1, T, K⟩ | ⟨n6, n7, seen8, n9, n10, seen11, f0, f1, f2, f3, f4, f5, f6, f7, rfl, rfl, rfl, rfl, rfl, rfl, f14, T, lv, Hl, K⟩ | ⟨n6, n7, seen8, n9, n10, seen11, f0, f1, f2, f3, f4, f5, f6, f7, rfl, rfl, rfl, rfl, rfl, rfl, f14, T, K⟩
    · exact ⟨0, by omega, K⟩
    · obtain ⟨v, v1, v2⟩ := ih (k + 1) lv (by omega) (by omega) Hl
      exact ⟨v, v1, fun d hd => K d _ hd (v2 d hd)⟩
    · exact ⟨1, by omega, K⟩
theorem c_differs {h : Hp} (hT : TInv h) {a b : Int} (b_a : 0 ≤ a ∧ a ≤ 59) (b_b : 0 ≤ b ∧ b ≤ 59) : ∃ v, (0 ≤ v ∧ v ≤ 1) ∧ ∀ d, 3 ≤ d → Ev d 210 (0, fl_enter 4 [rv 31, iv a, iv b], [], h, fl_tot) (some (iv v), h, fl_tot) := by
  obtain ⟨T, lv, Hl, K⟩ := s210 hT b_a b_b (LVs.self (fl_enter 4 [rv 31, iv a, iv b]))
  obtain ⟨v, v1, v2⟩ := c_df_l hT b_a b_b 81 0 lv (by omega) (by omega) Hl
  exact ⟨v, v1, fun d hd => K d _ hd (v2 d hd)⟩
abbrev weKs : List Nat := [81, 82, 83, 84, 85, 86, 87, 88, 89, 92]
abbrev weFs : List Int := [60, 64, 68, 69]
def WeOut (h : Hp) (pc : Nat) (ls : List (Option Value)) : Prop := ∃ h', (∀ d, 9 ≤ d → Ev d 209 (pc, ls, [], h, fl_tot) (none, h', fl_tot)) ∧ Nx h h' ∧ Fq weKs weFs h h'
theorem c_we_e {run : Int} (b_run : 0 ≤ run ∧ run ≤ 59) : ∀ (m : Nat) (ot r : Int) (ls : List (Option Value)) (h : Hp), TInv h → 59 - r < m → (0 ≤ r ∧ r ≤ 59) → r ≤ run → (0 ≤ ot ∧ ot ≤ 1) → LVs [some (rv 31), some (iv run), none, none, some (iv ot), some (iv r)] ls → WeOut h 190 ls := by
  intro m
  induction m with
  | zero => intro ot r ls h hT h1 h2; omega
  | succ m ih =>
    intro ot r ls h hT h1 b_r hr b_ot hl
    rcases s209e hT b_run b_ot b_r hl with ⟨explored6, g1, rfl, f0, f1, f2, rfl, f4, T, K⟩ | ⟨explored6, n7, g1, rfl, f0, f1, f2, f3, rfl, f5, T, K⟩ | ⟨explored6, g1, rfl, f0, f1, f2, f3, f4, f5, rfl, f7, T, K⟩ | ⟨f0, f1, f2, f3, f4, T, lv, Hl, K⟩
    · exact ⟨_, fun d hd => K d (by omega), T, (Fq.refl (Ks := weKs) (fs := weFs) h).put 81 4 _ rfl⟩
    · exact ⟨_, fun d hd => K d (by omega), T, (Fq.refl (Ks := weKs) (fs := weFs) h).put 81 4 _ rfl⟩
    · exact ⟨_, fun d hd => K d (by omega), T, (Fq.refl (Ks := weKs) (fs := weFs) h).put 81 4 _ rfl⟩
    · obtain ⟨v, v0, v1⟩ := c_differs hT b_run (b := r) (by omega)
      have K0 := K
      obtain ⟨T, lv, Hl, K⟩ := s209f hT b_run b_ot (r := r) (by omega) (v := v) v0 Hl
      obtain ⟨h', u1, u2, u3⟩ := ih v (r + 1) lv h hT (by omega) (by omega) (by omega) v0 Hl
      refine ⟨h', fun d hd => ?_, u2, u3⟩
      obtain ⟨d, rfl⟩ : ∃ d', d = d' + 1 := ⟨d - 1, by omega⟩
      exact K0 d _ _ _ (by omega) (v1 d (by omega)) (K (d + 1) _ (by omega) (u1 (d + 1) (by omega)))
theorem c_we_d {run : Int} (b_run : 0 ≤ run ∧ run ≤ 59) : ∀ (m : Nat) (x : Int) (ls : List (Option Value)) (h : Hp), TInv h → 40 - x < m → (0 ≤ x ∧ x ≤ 40) → LVs [some (rv 31), some (iv run), none, none, some (iv x), none] ls → WeOut h 127 ls := by
  intro m
  induction m with
  | zero => intro x ls h hT h1 h2; omega
  | succ m ih =>
    intro x ls h hT h1 b_x hl
    rcases s209d hT b_run b_x hl with ⟨f0, f1, T, lv, Hl, K⟩ | ⟨n5, n6, n7, answers9, n10, n11, n12, outcomes14, g1, g2, rfl, rfl, f0, f1, f2, f3, f4, f5, f6, f7, f8, f9, rfl, rfl, rfl, rfl, rfl, rfl, rfl, rfl, T, lv, Hl, K⟩
    · obtain ⟨h', u1, u2, u3⟩ := c_we_e b_run 60 1 0 lv h hT (by omega) (by omega) (by omega) (by omega) Hl
      exact ⟨h', fun d hd => K d _ (by omega) (u1 d hd), u2, u3⟩
    · obtain ⟨h', u1, u2, u3⟩ := ih (x + 1) lv _ T.1 (by omega) (by omega) Hl
      exact ⟨h', fun d hd => K d _ (by omega) (u1 d hd), T.trans u2, (((Fq.refl (Ks := weKs) (fs := weFs) h).put 92 _ _ rfl).put 92 _ _ rfl).trans u3⟩
theorem c_we_c {run z1 z2 z3 : Int} {h : Hp} (hT : TInv h) (b_run : 0 ≤ run ∧ run ≤ 59) {ls : List (Option Value)} (hl : LVs [some (rv 31), some (iv run), some (iv z1), some (iv z2), some (iv z3), none] ls) : WeOut h 124 ls := by
  obtain ⟨T, lv, Hl, K⟩ := s209c hT b_run (((hl.fg 2 rfl).fg 3 rfl).fg 4 rfl)
  obtain ⟨h', u1, u2, u3⟩ := c_we_d b_run 41 0 lv h hT (by omega) (by omega) Hl
  exact ⟨h', fun d hd => K d _ (by omega) (u1 d hd), u2, u3⟩
theorem c_we_a {run : Int} (b_run : 0 ≤ run ∧ run ≤ 59) : ∀ (m : Nat) (bad op t : Int) (ls : List (Option Value)) (h : Hp), TInv h → RI h → 6 - t < m → (0 ≤ t ∧ t ≤ 6) → (0 ≤ bad ∧ bad ≤ 1) → (0 ≤ op ∧ op ≤ 1) → LVs [some (rv 31), some (iv run), some (iv bad), some (iv op), some (iv t), none] ls → WeOut h 28 ls := by
  intro m
  induction m with
  | zero => intro bad op t ls h hT I h1 h2; omega
  | succ m ih =>
    intro bad op t ls h hT I h1 b_t b_bad b_op hl
    have b0 : 0 ≤ rd 31 0 h ∧ rd 31 0 h ≤ 6 := rdt_ok hT 31 0
    have fin : ∀ {v1 v2 : Int} {lv : List (Option Value)}, Nx h (wr 81 3 v2 (wr 81 2 v1 h)) → LVs [some (rv 31), some (iv run), some (iv bad), some (iv op), some (iv t), none] lv → (∀ d rr, 3 ≤ d → Ev d 209 (124, lv, [], wr 81 3 v2 (wr 81 2 v1 h), fl_tot) rr → Ev d 209 (28, ls, [], h, fl_tot) rr) → WeOut h 28 ls := fun T Hl K => by
      obtain ⟨h', u1, u2, u3⟩ := c_we_c T.1 b_run Hl
      exact ⟨h', fun d hd => K d _ (by omega) (u1 d hd), T.trans u2, (((Fq.refl (Ks := weKs) (fs := weFs) h).put 81 _ _ rfl).put 81 _ _ rfl).trans u3⟩
    rcases s209a hT b_run b_bad b_op b_t hl with ⟨trays6, explored8, explored9, g1, g2, rfl, rfl, f0, f1, f2, f3, f4, rfl, f6, rfl, f8, rfl, f10, T, lv, Hl, K⟩ | ⟨trays6, explored8, explored9, n10, g1, g2, rfl, rfl, f0, f1, f2, f3, f4, f5, rfl, f7, rfl, f9, rfl, f11, f12, T, lv, Hl, K⟩ | ⟨trays6, explored8, n9, explored10, g1, g2, rfl, rfl, f0, f1, f2, f3, f4, f5, rfl, f7, rfl, f9, rfl, f11, T, lv, Hl, K⟩ | ⟨trays6, explored8, n9, explored10, g1, g2, rfl, rfl, f0, f1, f2, f3, f4, f5, rfl, f7, rfl, f9, rfl, f11, f12, T, lv, Hl, K⟩ | ⟨trays6, f0, f1, rfl, f3, T, lv, Hl, K⟩
    · exact fin T Hl K
    · exact fin T Hl K
    · exact fin T Hl K
    · exact fin T Hl K
    · obtain ⟨v, h1', u1, u2, F, u4, -⟩ := c_search hT I (t := t) (by omega) (most := 300) (by omega)
      have K0 := K
      have F1 : Fq weKs weFs h h1' := F.wide rfl rfl
      have go : ∀ {a b : Int} {lv2 : List (Option Value)}, (0 ≤ a ∧ a ≤ 1) → (0 ≤ b ∧ b ≤ 1) → LVs [some (rv 31), some (iv run), some (iv a), some (iv b), some (iv (t + 1)), some (iv v)] lv2 → (∀ d rr, 3 ≤ d → Ev d 209 (28, lv2, [], h1', fl_tot) rr → Ev d 209 (46, lv, [iv v], h1', fl_tot) rr) → WeOut h 28 ls := fun {a b lv2} ba bb Hl K => by
        obtain ⟨h', z1, z2, z3⟩ := ih a b (t + 1) lv2 h1' u2.1 (I.fr F rfl) (by omega) (by omega) ba bb (Hl.fg 5 rfl)
        refine ⟨h', fun d hd => ?_, u2.trans z2, F1.trans z3⟩
        obtain ⟨d, rfl⟩ : ∃ d', d = d' + 1 := ⟨d - 1, by omega⟩
        exact K0 d _ _ _ (by omega) (u1 d (by omega)) (K (d + 1) _ (by omega) (z1 (d + 1) (by omega)))
      rcases s209b u2.1 b_run b_bad b_op (t := t) (by omega) (v := v) (by omega) Hl with ⟨f0, f1, f2, f3, T, lv, Hl, K⟩ | ⟨f0, f1, f2, f3, f4, f5, T, lv, Hl, K⟩ | ⟨f0, f1, f2, f3, f4, f5, T, lv, Hl, K⟩ | ⟨f0, f1, f2, f3, f4, T, lv, Hl, K⟩ | ⟨f0, f1, f2, f3, f4, f5, f6, T, lv, Hl, K⟩ | ⟨f0, f1, f2, f3, f4, f5, f6, T, lv, Hl, K⟩ | ⟨f0, f1, f2, f3, f4, f5, T, lv, Hl, K⟩ | ⟨f0, f1, f2, f3, f4, f5, f6, T, lv, Hl, K⟩
      all_goals exact go (by omega) (by omega) Hl K
theorem c_weighs {h : Hp} (hT : TInv h) (I : RI h) {run : Int} (b_run : 0 ≤ run ∧ run ≤ 59) : ∃ h', (∀ d, 9 ≤ d → Ev d 209 (0, fl_enter 6 [rv 31, iv run], [], h, fl_tot) (none, h', fl_tot)) ∧ Nx h h' ∧ Fq weKs weFs h h' := by
  have go : ∀ {v : Int} {lv : List (Option Value)}, Nx h (wr 81 1 v h) → LVs [some (rv 31), some (iv run), some (iv 0), some (iv 0), some (iv 0), none] lv → (∀ d rr, 3 ≤ d → Ev d 209 (28, lv, [], wr 81 1 v h, fl_tot) rr → Ev d 209 (0, fl_enter 6 [rv 31, iv run], [], h, fl_tot) rr) → ∃ h', (∀ d, 9 ≤ d → Ev d 209 (0, fl_enter 6 [rv 31, iv run], [], h, fl_tot) (none, h', fl_tot)) ∧ Nx h h' ∧ Fq weKs weFs h h' := fun {v lv} T Hl K => by
    have F := (Fq.refl (Ks := weKs) (fs := weFs) h).put 81 1 v rfl
    obtain ⟨h', u1, u2, u3⟩ := c_we_a b_run 7 0 0 0 lv _ T.1 (I.fr F rfl) (by omega) (by omega) (by omega) (by omega) Hl
    exact ⟨h', fun d hd => K d _ (by omega) (u1 d hd), T.trans u2, F.trans u3⟩
  rcases s209 hT b_run (LVs.self (fl_enter 6 [rv 31, iv run])) with ⟨explored4, ended5, g1, rfl, f0, f1, rfl, rfl, f4, T, lv, Hl, K⟩ | ⟨explored4, ended5, n6, g1, rfl, f0, f1, f2, rfl, rfl, f5, T, lv, Hl, K⟩
  · exact go T Hl K
  · exact go T Hl K
