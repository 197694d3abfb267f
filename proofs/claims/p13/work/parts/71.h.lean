
set_option maxRecDepth 20000
theorem c_pe_b : ∀ (n : Nat) (k : Int) (ls : List (Option Value)) (h : Hp), TInv h → 4 - k < n → (0 ≤ k ∧ k ≤ 4) → LVs [some (rv 31), some (iv k)] ls → ∃ h', (∀ d, 3 ≤ d → Ev d 196 (40, ls, [], h, fl_tot) (none, h', fl_tot)) ∧ Nx h h' ∧ Fq [89] [] h h' := by
  intro n
  induction n with
  | zero => intro k ls h hT h1 h2; omega
  | succ n ih =>
    intro k ls h hT h1 b_k hl
    rcases s196b hT b_k hl with ⟨f0, f1, T, K⟩ | ⟨g1, rfl, f0, f1, T, lv, Hl, K⟩
    · exact ⟨h, K, T, Fq.refl h⟩
    · obtain ⟨h', u1, u2, u3⟩ := ih (k + 1) lv _ T.1 (by omega) (by omega) Hl
      exact ⟨h', fun d hd => K d _ hd (u1 d hd), T.trans u2, ((Fq.refl h).put 89 k 0 rfl).trans u3⟩
theorem c_pe_a : ∀ (n : Nat) (k : Int) (ls : List (Option Value)) (h : Hp), TInv h → 32 - k < n → (0 ≤ k ∧ k ≤ 32) → LVs [some (rv 31), some (iv k)] ls → ∃ h', (∀ d, 3 ≤ d → Ev d 196 (2, ls, [], h, fl_tot) (none, h', fl_tot)) ∧ Nx h h' ∧ Fq [86, 87, 89] [68, 69] h h' ∧ rd 31 68 h' = 0 := by
  intro n
  induction n with
  | zero => intro k ls h hT h1 h2; omega
  | succ n ih =>
    intro k ls h hT h1 b_k hl
    rcases s196a hT b_k hl with ⟨g1, g2, rfl, rfl, f0, f1, T, lv, Hl, K⟩ | ⟨g1, g2, rfl, rfl, f0, f1, T, lv, Hl, K⟩
    · obtain ⟨h', u1, u2, u3⟩ := c_pe_b 5 0 lv _ T.1 (by omega) (by omega) Hl
      refine ⟨h', fun d hd => K d _ hd (u1 d hd), T.trans u2, (((Fq.refl h).putf 68 0 rfl).putf 69 0 rfl).trans (u3.wide rfl rfl), ?_⟩
      rw [u3.f 68 rfl, rd_ne (by decide) (by decide) (by decide)]
      exact rd_eq (by decide) (by decide)
    · obtain ⟨h', u1, u2, u3, u4⟩ := ih (k + 1) lv _ T.1 (by omega) (by omega) Hl
      exact ⟨h', fun d hd => K d _ hd (u1 d hd), T.trans u2, (((Fq.refl h).put 86 k 0 rfl).put 87 k 0 rfl).trans u3, u4⟩
theorem c_plainEmpty {h : Hp} (hT : TInv h) : ∃ h', (∀ d, 3 ≤ d → Ev d 196 (0, fl_enter 2 [rv 31], [], h, fl_tot) (none, h', fl_tot)) ∧ Nx h h' ∧ Fq [86, 87, 89] [68, 69] h h' ∧ rd 31 68 h' = 0 := by
  obtain ⟨T, lv, Hl, K⟩ := s196 hT (LVs.self (fl_enter 2 [rv 31]))
  obtain ⟨h', u1, u2, u3, u4⟩ := c_pe_a 33 0 lv h hT (by omega) (by omega) Hl
  exact ⟨h', fun d hd => K d _ hd (u1 d hd), u2, u3, u4⟩
theorem c_al_a {h : Hp} (hT : TInv h) {t : Int} (b_t : 0 ≤ t ∧ t ≤ 5) : ∀ (n : Nat) (k is : Int) (ls : List (Option Value)), 12 - k < n → (0 ≤ k ∧ k ≤ 12) → (0 ≤ is ∧ is ≤ 1) → LVs [some (rv 31), some (iv t), some (iv is), some (iv k)] ls → ∃ w, (0 ≤ w ∧ w ≤ 1) ∧ ∀ d, 3 ≤ d → Ev d 197 (70, ls, [], h, fl_tot) (some (iv w), h, fl_tot) := by
  intro n
  induction n with
  | zero => intro k is ls h1 h2; omega
  | succ n ih =>
    intro k is ls h1 b_k b_is hl
    have bm : 0 ≤ rd 31 68 h ∧ rd 31 68 h ≤ 12 := rdt_ok hT 31 68
    rcases s197a hT b_t b_is b_k hl with ⟨plainMany5, f0, rfl, f2, T, K⟩ | ⟨plainMany5, f0, f1, f2, rfl, f4, f5, T, K⟩ | ⟨plainMany5, plainRow7, n9, n10, row11, f0, f1, f2, f3, f4, f5, f6, rfl, f8, f9, rfl, rfl, rfl, rfl, f14, T, lv, Hl, K⟩ | ⟨plainMany5, plainRow7, n9, n10, row11, f0, f1, f2, f3, f4, f5, f6, rfl, f8, f9, rfl, rfl, rfl, rfl, f14, T, lv, Hl, K⟩
    all_goals first
      | (obtain ⟨w, w0, w1⟩ := ih (k + 1) _ lv (by omega) (by omega) (by omega) Hl
         exact ⟨w, w0, fun d hd => K d _ hd (w1 d hd)⟩)
      | exact ⟨_, by omega, K⟩
theorem c_al_b {h : Hp} (hT : TInv h) {t : Int} (b_t : 0 ≤ t ∧ t ≤ 5) : ∀ (n : Nat) (k is : Int) (ls : List (Option Value)), 32 - k < n → (0 ≤ k ∧ k ≤ 32) → (0 ≤ is ∧ is ≤ 1) → LVs [some (rv 31), some (iv t), some (iv is), some (iv k)] ls → ∃ w, (0 ≤ w ∧ w ≤ 1) ∧ ∀ d, 3 ≤ d → Ev d 197 (195, ls, [], h, fl_tot) (some (iv w), h, fl_tot) := by
  intro n
  induction n with
  | zero => intro k is ls h1 h2; omega
  | succ n ih =>
    intro k is ls h1 b_k b_is hl
    rcases s197b hT b_t b_is b_k hl with ⟨f0, f1, T, K⟩ | ⟨f0, f1, f2, f3, T, K⟩ | ⟨plainHas6, n8, n9, has10, f0, f1, f2, f3, f4, f5, f6, f7, rfl, rfl, rfl, rfl, f12, T, lv, Hl, K⟩ | ⟨plainHas6, n8, n9, has10, plainHas11, f0, f1, f2, f3, f4, f5, f6, f7, f8, rfl, rfl, rfl, rfl, f13, rfl, f15, T, lv, Hl, K⟩ | ⟨plainHas6, n8, n9, has10, plainHas11, plainValue13, n15, n16, value17, f0, f1, f2, f3, f4, f5, f6, f7, f8, f9, f10, f11, f12, rfl, rfl, rfl, rfl, f17, rfl, f19, rfl, rfl, rfl, rfl, f24, T, lv, Hl, K⟩ | ⟨plainHas6, n8, n9, has10, plainHas11, plainValue13, n15, n16, value17, f0, f1, f2, f3, f4, f5, f6, f7, f8, f9, f10, f11, f12, rfl, rfl, rfl, rfl, f17, rfl, f19, rfl, rfl, rfl, rfl, f24, T, lv, Hl, K⟩
    all_goals first
      | (obtain ⟨w, w0, w1⟩ := ih (k + 1) _ lv (by omega) (by omega) (by omega) Hl
         exact ⟨w, w0, fun d hd => K d _ hd (w1 d hd)⟩)
      | exact ⟨_, by omega, K⟩
theorem c_areAlike {h : Hp} (hT : TInv h) {t : Int} (b_t : 0 ≤ t ∧ t ≤ 5) : ∃ w, (0 ≤ w ∧ w ≤ 1) ∧ ∀ d, 3 ≤ d → Ev d 197 (0, fl_enter 4 [rv 31, iv t], [], h, fl_tot) (some (iv w), h, fl_tot) := by
  rcases s197 hT b_t (LVs.self (fl_enter 4 [rv 31, iv t])) with ⟨kind4, f0, rfl, f2, f3, f4, T, lv, Hl, K⟩ | ⟨kind4, plainMany5, many7, f0, f1, f2, rfl, rfl, rfl, f6, T, lv, Hl, K⟩ | ⟨kind4, plainMany5, many7, plainClosed8, isClosed10, f0, f1, f2, f3, f4, rfl, rfl, rfl, f8, rfl, rfl, f11, T, lv, Hl, K⟩ | ⟨kind4, plainMany5, many7, plainClosed8, isClosed10, f0, f1, f2, f3, f4, rfl, rfl, rfl, f8, rfl, rfl, f11, T, lv, Hl, K⟩ | ⟨kind4, plainMany5, many7, f0, f1, f2, rfl, rfl, rfl, f6, T, lv, Hl, K⟩ | ⟨kind4, plainMany5, many7, plainClosed8, isClosed10, f0, f1, f2, f3, f4, rfl, rfl, rfl, f8, rfl, rfl, f11, T, lv, Hl, K⟩ | ⟨kind4, plainMany5, many7, plainClosed8, isClosed10, f0, f1, f2, f3, f4, rfl, rfl, rfl, f8, rfl, rfl, f11, T, lv, Hl, K⟩ | ⟨kind4, plainShare6, plainShare7, n8, plainShare9, n10, plainShare11, n12, n14, share15, n16, share17, n18, n19, share20, n21, n22, share23, n24, f0, f1, f2, f3, f4, f5, f6, f7, f8, f9, f10, f11, f12, f13, f14, f15, f16, f17, f18, rfl, rfl, rfl, rfl, rfl, rfl, rfl, rfl, rfl, rfl, rfl, rfl, rfl, f32, T, K⟩ | ⟨kind4, plainShare6, plainShare7, n8, plainShare9, n10, plainShare11, n12, n14, share15, n16, share17, n18, n19, share20, n21, n22, share23, n24, f0, f1, f2, f3, f4, f5, f6, f7, f8, f9, f10, f11, f12, f13, f14, f15, f16, f17, f18, rfl, rfl, rfl, rfl, rfl, rfl, rfl, rfl, rfl, rfl, rfl, rfl, rfl, f32, T, K⟩
  all_goals first
    | (obtain ⟨w, w0, w1⟩ := c_al_a hT b_t 13 0 _ lv (by omega) (by omega) (by omega) Hl
       exact ⟨w, w0, fun d hd => K d _ hd (w1 d hd)⟩)
    | (obtain ⟨w, w0, w1⟩ := c_al_b hT b_t 33 0 _ lv (by omega) (by omega) (by omega) Hl
       exact ⟨w, w0, fun d hd => K d _ hd (w1 d hd)⟩)
    | exact ⟨_, by omega, K⟩
