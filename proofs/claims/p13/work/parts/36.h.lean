
/-! THE NEXT CARD OF A ROW -/
def inRow (h : Hp) (t fr r bf k : Int) : Prop := rd 63 (32 * t + k) h = 1 ∧ rd 66 (32 * t + k) h = fr ∧ rd 65 (32 * t + k) h = r ∧ rd 67 (32 * t + k) h < bf
def nxP (h : Hp) (t s fr r bf key v : Int) : Prop := (v = -1 ∧ ∀ k, 0 ≤ k → k < key → k < 32 → k % 4 = s → ¬ inRow h t fr r bf k) ∨ (0 ≤ v ∧ v < 32 ∧ v % 4 = s ∧ inRow h t fr r bf v ∧ ∀ k, 0 ≤ k → k < key → k < 32 → k % 4 = s → inRow h t fr r bf k → rd 67 (32 * t + k) h ≤ rd 67 (32 * t + v) h)
theorem nxP.skip {h : Hp} {t s fr r bf key v : Int} (p : nxP h t s fr r bf key v) (hk : key % 4 = s) (hn : ¬ inRow h t fr r bf key) : nxP h t s fr r bf (key + 4) v := by
  have hx : ∀ k, 0 ≤ k → k < key + 4 → k % 4 = s → inRow h t fr r bf k → k < key := fun k h1 h2 h3 h4 => by
    by_cases e : k = key
    · subst e; exact absurd h4 hn
    · omega
  rcases p with ⟨p1, p2⟩ | ⟨p1, p2, p3, p4, p5⟩
  · exact Or.inl ⟨p1, fun k h1 h2 h3 h4 h5 => p2 k h1 (hx k h1 h2 h4 h5) h3 h4 h5⟩
  · exact Or.inr ⟨p1, p2, p3, p4, fun k h1 h2 h3 h4 h5 => p5 k h1 (hx k h1 h2 h4 h5) h3 h4 h5⟩
theorem nxP.keep {h : Hp} {t s fr r bf key v : Int} (p : nxP h t s fr r bf key v) (hv : v ≠ -1) (hk : key % 4 = s) (hn : rd 67 (32 * t + key) h ≤ rd 67 (32 * t + v) h) : nxP h t s fr r bf (key + 4) v := by
  rcases p with ⟨p1, p2⟩ | ⟨p1, p2, p3, p4, p5⟩
  · exact absurd p1 hv
  · refine Or.inr ⟨p1, p2, p3, p4, fun k h1 h2 h3 h4 h5 => ?_⟩
    by_cases e : k = key
    · subst e; exact hn
    · exact p5 k h1 (by omega) h3 h4 h5
theorem nxP.take {h : Hp} {t s fr r bf key v : Int} (p : nxP h t s fr r bf key v) (h0 : 0 ≤ key ∧ key < 32) (hk : key % 4 = s) (hi : inRow h t fr r bf key) (hn : v ≠ -1 → rd 67 (32 * t + v) h ≤ rd 67 (32 * t + key) h) : nxP h t s fr r bf (key + 4) key := by
  refine Or.inr ⟨h0.1, h0.2, hk, hi, fun k h1 h2 h3 h4 h5 => ?_⟩
  by_cases e : k = key
  · subst e; omega
  · rcases p with ⟨p1, p2⟩ | ⟨p1, p2, p3, p4, p5⟩
    · exact absurd h5 (p2 k h1 (by omega) h3 h4)
    · have := p5 k h1 (by omega) h3 h4 h5
      have := hn (by omega)
      omega
theorem c_nextOf_l {h : Hp} (hT : TInv h) {t s fr r bf : Int} (b_t : 0 ≤ t ∧ t ≤ 5) (b_s : 0 ≤ s ∧ s ≤ 3) (b_fr : 0 ≤ fr ∧ fr ≤ 1) (b_r : 0 ≤ r ∧ r ≤ 8) (b_bf : -2147483648 ≤ bf ∧ bf ≤ 2147483647) : ∀ (n : Nat) (key fo : Int) (ls : List (Option Value)), 35 - key < 4 * n → (0 ≤ key ∧ key ≤ 35) → key % 4 = s → (-1 ≤ fo ∧ fo ≤ 31) → nxP h t s fr r bf key fo →
    LVs [some (rv 31), some (iv t), some (iv s), some (iv fr), some (iv r), some (iv bf), some (iv fo), some (iv key), none, none] ls → ∃ v, nxP h t s fr r bf 32 v ∧ ∀ d, 3 ≤ d → Ev d 165 (6, ls, [], h, fl_tot) (some (iv v), h, fl_tot) := by
  intro n
  induction n with
  | zero => intro key fo ls h1 h2; omega
  | succ n ih =>
    intro key fo ls h1 b_key h3 b_fo p hl
    have hend : ∀ {v : Int}, 32 ≤ key → nxP h t s fr r bf key v → nxP h t s fr r bf 32 v := fun hk q => by
      rcases q with ⟨p1, p2⟩ | ⟨p1, p2, p3, p4, p5⟩
      · exact Or.inl ⟨p1, fun k h1 h2 h3 h4 h5 => p2 k h1 (by omega) h3 h4 h5⟩
      · exact Or.inr ⟨p1, p2, p3, p4, fun k h1 h2 h3 h4 h5 => p5 k h1 (by omega) h3 h4 h5⟩
    have go : ∀ {fo' a b : Int} {ls' : List (Option Value)}, (-1 ≤ fo' ∧ fo' ≤ 31) → key < 32 → nxP h t s fr r bf (key + 4) fo' → LVs [some (rv 31), some (iv t), some (iv s), some (iv fr), some (iv r), some (iv bf), some (iv fo'), some (iv (key + 4)), some (iv a), some (iv b)] ls' → (∀ d r', 3 ≤ d → Ev d 165 (6, ls', [], h, fl_tot) r' → Ev d 165 (6, ls, [], h, fl_tot) r') → ∃ v, nxP h t s fr r bf 32 v ∧ ∀ d, 3 ≤ d → Ev d 165 (6, ls, [], h, fl_tot) (some (iv v), h, fl_tot) := by
      intro fo' a b ls' q1 q2 q3 q4 q5
      obtain ⟨v, w1, w2⟩ := ih (key + 4) fo' ls' (by omega) (by omega) (by omega) q1 q3 ((q4.fg 8 rfl).fg 9 rfl)
      exact ⟨v, w1, fun d hd => q5 d _ hd (w2 d hd)⟩
    rcases s165l hT b_t b_s b_fr b_r b_bf b_fo b_key hl with ⟨f0, f1, T, K⟩ | ⟨n9, n10, has12, f0, f1, f2, f3, f4, rfl, rfl, rfl, f8, f9, T, lv, Hl, K⟩ | ⟨n9, n10, has12, isNew14, f0, f1, f2, f3, f4, f5, rfl, rfl, rfl, f9, rfl, f11, f12, T, lv, Hl, K⟩ | ⟨n9, n10, has12, isNew14, rowOf16, f0, f1, f2, f3, f4, f5, f6, rfl, rfl, rfl, f10, rfl, f12, rfl, f14, f15, T, lv, Hl, K⟩ | ⟨n9, n10, has12, isNew14, rowOf16, stamp18, f0, f1, f2, f3, f4, f5, f6, f7, f8, rfl, rfl, rfl, f12, rfl, f14, rfl, f16, rfl, f18, f19, T, lv, Hl, K⟩ | ⟨n9, n10, has12, isNew14, rowOf16, stamp18, f0, f1, f2, f3, f4, f5, f6, f7, f8, f9, f10, rfl, rfl, rfl, f14, rfl, f16, rfl, f18, rfl, f20, f21, f22, T, lv, Hl, K⟩ | ⟨n9, n10, has12, isNew14, rowOf16, stamp18, stamp19, n20, n21, stamp22, f0, f1, f2, f3, f4, f5, f6, f7, f8, f9, f10, f11, f12, f13, f14, rfl, rfl, rfl, f18, rfl, f20, rfl, f22, rfl, f24, f25, f26, rfl, rfl, rfl, rfl, f31, T, lv, Hl, K⟩ | ⟨n9, n10, has12, isNew14, rowOf16, stamp18, stamp19, n20, n21, stamp22, f0, f1, f2, f3, f4, f5, f6, f7, f8, f9, f10, f11, f12, f13, f14, rfl, rfl, rfl, f18, rfl, f20, rfl, f22, rfl, f24, f25, f26, rfl, rfl, rfl, rfl, f31, T, lv, Hl, K⟩
    · exact ⟨fo, hend (by omega) p, K⟩
    · exact go b_fo (by omega) (p.skip h3 fun z => by unfold inRow at z; omega) Hl K
    · exact go b_fo (by omega) (p.skip h3 fun z => by unfold inRow at z; omega) Hl K
    · exact go b_fo (by omega) (p.skip h3 fun z => by unfold inRow at z; omega) Hl K
    · exact go b_fo (by omega) (p.skip h3 fun z => by unfold inRow at z; omega) Hl K
    · exact go (by omega) (by omega) (p.take (by omega) h3 (by unfold inRow; omega) fun z => by omega) Hl K
    · exact go b_fo (by omega) (p.keep (by omega) h3 (by omega)) Hl K
    · exact go (by omega) (by omega) (p.take (by omega) h3 (by unfold inRow; omega) fun z => by omega) Hl K
theorem c_nextOf {h : Hp} (hT : TInv h) {t s fr r bf : Int} (b_t : 0 ≤ t ∧ t ≤ 5) (b_s : 0 ≤ s ∧ s ≤ 3) (b_fr : 0 ≤ fr ∧ fr ≤ 1) (b_r : 0 ≤ r ∧ r ≤ 8) (b_bf : -2147483648 ≤ bf ∧ bf ≤ 2147483647) : ∃ v, nxP h t s fr r bf 32 v ∧ ∀ d, 3 ≤ d → Ev d 165 (0, fl_enter 10 [rv 31, iv t, iv s, iv fr, iv r, iv bf], [], h, fl_tot) (some (iv v), h, fl_tot) := by
  obtain ⟨T, lv, Hl, K⟩ := s165 hT b_t b_s b_fr b_r b_bf (LVs.self (fl_enter 10 [rv 31, iv t, iv s, iv fr, iv r, iv bf]))
  obtain ⟨v, w1, w2⟩ := c_nextOf_l hT b_t b_s b_fr b_r b_bf 9 s (-1) lv (by omega) (by omega) (by omega) (by omega) (Or.inl ⟨rfl, fun k h1 h2 h3 h4 => by omega⟩) Hl
  exact ⟨v, w1, fun d hd => K d _ hd (w2 d hd)⟩
/-- how many of given cards a stripe has: no more than there are -/
theorem c_cardsIn_l {h : Hp} (hT : TInv h) {t s : Int} (b_t : 0 ≤ t ∧ t ≤ 5) (b_s : 0 ≤ s ∧ s ≤ 3) : ∀ (j : Nat) (key n : Int) (ls : List (Option Value)), 35 - key < 4 * j → (0 ≤ key ∧ key ≤ 35) → key % 4 = s → 0 ≤ n → 4 * n ≤ key - s →
    LVs [some (rv 31), some (iv t), some (iv s), some (iv n), some (iv key)] ls → ∃ v, (0 ≤ v ∧ v ≤ 8) ∧ ∀ d, 3 ≤ d → Ev d 171 (5, ls, [], h, fl_tot) (some (iv v), h, fl_tot) := by
  intro j
  induction j with
  | zero => intro key n ls h1 h2; omega
  | succ j ih =>
    intro key n ls h1 b_key h3 h4 h5 hl
    rcases s171l hT b_t b_s (n := n) (by omega) b_key hl with ⟨f0, f1, T, K⟩ | ⟨n7, n8, has9, f0, f1, f2, f3, f4, rfl, rfl, rfl, f8, T, lv, Hl, K⟩ | ⟨n7, n8, has9, f0, f1, f2, f3, f4, rfl, rfl, rfl, f8, T, lv, Hl, K⟩
    · exact ⟨n, by omega, K⟩
    · obtain ⟨v, w1, w2⟩ := ih (key + 4) n lv (by omega) (by omega) (by omega) (by omega) (by omega) Hl
      exact ⟨v, w1, fun d hd => K d _ hd (w2 d hd)⟩
    · obtain ⟨v, w1, w2⟩ := ih (key + 4) (n + 1) lv (by omega) (by omega) (by omega) (by omega) (by omega) Hl
      exact ⟨v, w1, fun d hd => K d _ hd (w2 d hd)⟩
theorem c_cardsIn {h : Hp} (hT : TInv h) {t s : Int} (b_t : 0 ≤ t ∧ t ≤ 5) (b_s : 0 ≤ s ∧ s ≤ 3) : ∃ v, (0 ≤ v ∧ v ≤ 8) ∧ ∀ d, 3 ≤ d → Ev d 171 (0, fl_enter 5 [rv 31, iv t, iv s], [], h, fl_tot) (some (iv v), h, fl_tot) := by
  obtain ⟨T, lv, Hl, K⟩ := s171 hT b_t b_s (LVs.self (fl_enter 5 [rv 31, iv t, iv s]))
  obtain ⟨v, w1, w2⟩ := c_cardsIn_l hT b_t b_s 9 s 0 lv (by omega) (by omega) (by omega) (by omega) (by omega) Hl
  exact ⟨v, w1, fun d hd => K d _ hd (w2 d hd)⟩
theorem c_headOf {h : Hp} (hT : TInv h) {t s fr r : Int} (b_t : 0 ≤ t ∧ t ≤ 5) (b_s : 0 ≤ s ∧ s ≤ 3) (b_fr : 0 ≤ fr ∧ fr ≤ 1) (b_r : 0 ≤ r ∧ r ≤ 8) (hs : 0 ≤ rd 31 42 h ∧ rd 31 42 h ≤ 100000) : ∃ v, nxP h t s fr r (rd 31 42 h + 1) 32 v ∧ ∀ d, 4 ≤ d → Ev d 164 (0, fl_enter 5 [rv 31, iv t, iv s, iv fr, iv r], [], h, fl_tot) (some (iv v), h, fl_tot) := by
  rcases s164 hT b_t b_s b_fr b_r (LVs.self (fl_enter 5 [rv 31, iv t, iv s, iv fr, iv r])) with ⟨stamps6, f0, rfl, f2⟩ | ⟨stamps6, f0, rfl, f2⟩ | ⟨stamps6, f0, rfl, T, lv, Hl, K⟩
  all_goals first | (exfalso; omega) | skip
  obtain ⟨v, w1, w2⟩ := c_nextOf hT b_t b_s b_fr b_r (bf := rd 31 42 h + 1) (by omega)
  refine ⟨v, w1, fun d hd => ?_⟩
  obtain ⟨d, rfl⟩ : ∃ d', d = d' + 1 := ⟨d - 1, by omega⟩
  exact K d _ _ _ (by omega) (w2 d (by omega)) (by
    obtain ⟨T, K⟩ := s164r T.1 b_t b_s b_fr b_r (v := v) (by rcases w1 with w | w <;> omega) Hl
    exact K (d + 1) (by omega))
