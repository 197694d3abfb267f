
set_option maxRecDepth 20000
theorem c_plain_l {h : Hp} (hT : TInv h) {x t op a how an : Int} (b_x : 0 ≤ x ∧ x ≤ 39) (b_t : 0 ≤ t ∧ t ≤ 5) (b_op : 0 ≤ op ∧ op ≤ 4) (b_a : -2147483648 ≤ a ∧ a ≤ 2147483647) (b_how : 0 ≤ how ∧ how ≤ 6) (b_an : -2147483648 ≤ an ∧ an ≤ 2147483647) : ∀ (n : Nat) (k v : Int) (ls : List (Option Value)), 32 - k < n → (0 ≤ k ∧ k ≤ 32) → (-2147483648 ≤ v ∧ v ≤ 2147483647) → LVs [some (rv 31), some (iv x), some (iv t), some (iv op), some (iv a), some (iv how), some (iv an), none, some (iv v), none, some (iv k)] ls → ∃ w, (0 ≤ w ∧ w ≤ 1) ∧ ∀ d, 3 ≤ d → Ev d 199 (410, ls, [], h, fl_tot) (some (iv w), h, fl_tot) := by
  intro n
  induction n with
  | zero => intro k v ls h1 h2; omega
  | succ n ih =>
    intro k v ls h1 b_k b_v hl
    rcases s199l hT b_x b_t b_op b_a b_how b_an b_v b_k hl with ⟨f0, f1, f2, f3, T, K⟩ | ⟨f0, f1, f2, f3, f4, T, K⟩ | ⟨f0, f1, f2, f3, f4, T, K⟩ | ⟨plainHas11, f0, f1, f2, rfl, f4, T, lv, Hl, K⟩ | ⟨plainHas11, plainValue13, n14, n15, f0, f1, f2, f3, f4, f5, rfl, f7, rfl, T, lv, Hl, K⟩
    · exact ⟨0, by omega, K⟩
    · exact ⟨0, by omega, K⟩
    · exact ⟨1, by omega, K⟩
    · obtain ⟨w, w0, w1⟩ := ih (k + 1) _ lv (by omega) (by omega) (by first | assumption | omega) Hl
      exact ⟨w, w0, fun d hd => K d _ hd (w1 d hd)⟩
    · obtain ⟨w, w0, w1⟩ := ih (k + 1) _ lv (by omega) (by omega) (by first | assumption | omega) Hl
      exact ⟨w, w0, fun d hd => K d _ hd (w1 d hd)⟩
theorem c_plain {h : Hp} (hT : TInv h) {x t : Int} (b_x : 0 ≤ x ∧ x ≤ 39) (b_t : 0 ≤ t ∧ t ≤ 5) (ha : rd 32 t h = 0 ∨ rd 32 t h = 5 ∨ (rd 32 t h = 4 ∧ rd 37 x h ≠ 3) → 0 ≤ rd 38 x h ∧ rd 38 x h ≤ 31) (hm : rd 31 68 h ≤ 11) : PlOut h 199 0 (fl_enter 11 [rv 31, iv x, iv t]) [] 5 := by
  have bm : 0 ≤ rd 31 68 h ∧ rd 31 68 h ≤ 12 := rdt_ok hT 31 68
  have b_op := rda_ok hT 37 40 0 4 rfl (i := x) (by omega) (by omega)
  have b_how := rda_ok hT 47 40 0 6 rfl (i := x) (by omega) (by omega)
  have b_k := rda_ok hT 32 6 0 5 rfl (i := t) (by omega) (by omega)
  have b_a := rd_int 38 x h
  have b_an := rd_int 46 x h
  have F86 (j u w : Int) := ((Fq.refl (Ks := [86, 87, 88, 89]) (fs := [68, 69]) h).put 86 j u rfl).put 87 j w rfl
  have F87 (j u w : Int) := ((Fq.refl (Ks := [86, 87, 88, 89]) (fs := [68, 69]) h).put 87 j u rfl).put 86 j w rfl
  have F89 (j u : Int) := (Fq.refl (Ks := [86, 87, 88, 89]) (fs := [68, 69]) h).put 89 j u rfl
  have pre : ∀ {pc : Nat} {lv : List (Option Value)}, (∀ d rr, 3 ≤ d → Ev d 199 (pc, lv, [], h, fl_tot) rr → Ev d 199 (0, fl_enter 11 [rv 31, iv x, iv t], [], h, fl_tot) rr) → PlOut h 199 pc lv [] 5 → PlOut h 199 0 (fl_enter 11 [rv 31, iv x, iv t]) [] 5 := fun K p => by
    obtain ⟨v, h', v0, v1, v2, v3, v4⟩ := p
    exact ⟨v, h', v0, fun d hd => K d _ (by omega) (v1 d hd), v2, v3, v4⟩
  have m86 : ∀ {pc : Nat} {lv : List (Option Value)} {j u w v : Int}, (0 ≤ v ∧ v ≤ 1) → Nx h (wr 87 j w (wr 86 j u h)) → (∀ d, 3 ≤ d → Ev d 199 (pc, lv, [], h, fl_tot) (some (iv v), wr 87 j w (wr 86 j u h), fl_tot)) → PlOut h 199 pc lv [] 5 := fun hv T K => PlOut.mk K (by omega) hv T (F86 _ _ _) (by simp (disch := omega) only [rdk]; omega)
  have m87 : ∀ {pc : Nat} {lv : List (Option Value)} {j u w v : Int}, (0 ≤ v ∧ v ≤ 1) → Nx h (wr 86 j w (wr 87 j u h)) → (∀ d, 3 ≤ d → Ev d 199 (pc, lv, [], h, fl_tot) (some (iv v), wr 86 j w (wr 87 j u h), fl_tot)) → PlOut h 199 pc lv [] 5 := fun hv T K => PlOut.mk K (by omega) hv T (F87 _ _ _) (by simp (disch := omega) only [rdk]; omega)
  have m89 : ∀ {pc : Nat} {lv : List (Option Value)} {j u v : Int}, (0 ≤ v ∧ v ≤ 1) → Nx h (wr 89 j u h) → (∀ d, 3 ≤ d → Ev d 199 (pc, lv, [], h, fl_tot) (some (iv v), wr 89 j u h, fl_tot)) → PlOut h 199 pc lv [] 5 := fun hv T K => PlOut.mk K (by omega) hv T (F89 _ _) (by simp (disch := omega) only [rdk]; omega)
  have m68 : ∀ {pc : Nat} {lv : List (Option Value)} {j v : Int}, (0 ≤ v ∧ v ≤ 1) → Nx h (wr 31 68 (rd 31 68 h + 1) (wr 88 j (rd 38 x h) h)) → (∀ d, 3 ≤ d → Ev d 199 (pc, lv, [], h, fl_tot) (some (iv v), wr 31 68 (rd 31 68 h + 1) (wr 88 j (rd 38 x h) h), fl_tot)) → PlOut h 199 pc lv [] 5 := fun hv T K => PlOut.mk K (by omega) hv T (((Fq.refl (Ks := [86, 87, 88, 89]) (fs := [68, 69]) h).put 88 _ _ rfl).putf 68 _ rfl) (by rw [rd_eq (by omega) (by omega)]; exact Int.le_refl _)
  rcases s199 hT b_x b_t (LVs.self (fl_enter 11 [rv 31, iv x, iv t])) with ⟨opOf5, aOf7, outcomes9, answers11, kind13, f0, f1, f2, f3, f4, rfl, rfl, rfl, rfl, rfl, f10, f11, f12, f13, f14, T, lv, Hl, K⟩ | ⟨opOf5, aOf7, outcomes9, answers11, kind13, f0, f1, f2, f3, f4, rfl, rfl, rfl, rfl, rfl, T, lv, Hl, K⟩ | ⟨opOf5, aOf7, outcomes9, answers11, kind13, f0, f1, f2, f3, f4, rfl, rfl, rfl, rfl, rfl, T, lv, Hl, K⟩ | ⟨opOf5, aOf7, outcomes9, answers11, kind13, f0, f1, f2, f3, f4, rfl, rfl, rfl, rfl, rfl, T, lv, Hl, K⟩ | ⟨opOf5, aOf7, outcomes9, answers11, kind13, f0, f1, f2, f3, f4, rfl, rfl, rfl, rfl, rfl, T, lv, Hl, K⟩ | ⟨opOf5, aOf7, outcomes9, answers11, kind13, f0, f1, f2, f3, f4, rfl, rfl, rfl, rfl, rfl, T, lv, Hl, K⟩
  -- once
  · have hk5 : rd 32 t h = 5 := by omega
    refine pre K ?_
    have hh := ha (by omega)
    rcases s199g hT b_x b_t b_op b_a b_how b_an Hl with f0 | f0 | ⟨plainHas9, n10, n11, n12, n13, f0, f1, f2, f3, f4, f5, rfl, f7, rfl, rfl, rfl, rfl, f12, f13, T, K⟩ | ⟨plainHas9, n10, n11, n12, n13, plainValue15, f0, f1, f2, f3, f4, f5, f6, rfl, f8, rfl, rfl, rfl, rfl, f13, f14, rfl, f16, T, K⟩ | ⟨plainHas9, n10, n11, n12, n13, plainValue15, f0, f1, f2, f3, f4, f5, f6, rfl, f8, rfl, rfl, rfl, rfl, f13, f14, rfl, f16, T, K⟩ | ⟨plainHas9, n10, n11, n12, n13, g1, g2, rfl, rfl, f0, f1, f2, f3, f4, f5, f6, rfl, f8, rfl, rfl, rfl, rfl, f13, f14, T, K⟩ | ⟨plainHas9, n10, n11, n12, n13, g1, g2, rfl, rfl, f0, f1, f2, f3, f4, f5, f6, rfl, f8, rfl, rfl, rfl, rfl, f13, f14, T, K⟩ | ⟨plainHas9, f0, f1, f2, rfl, f4, f5, T, K⟩ | ⟨plainHas9, f0, f1, f2, rfl, f4, f5, T, K⟩
    · exfalso; omega
    · exfalso; omega
    · exact PlOut.mk K (by omega) (by omega) T (Fq.refl h) (by omega)
    · exact PlOut.mk K (by omega) (by omega) T (Fq.refl h) (by omega)
    · exact PlOut.mk K (by omega) (by omega) T (Fq.refl h) (by omega)
    · exact m86 (by omega) T K
    · exact m86 (by omega) T K
    · exact PlOut.mk K (by omega) (by omega) T (Fq.refl h) (by omega)
    · exact PlOut.mk K (by omega) (by omega) T (Fq.refl h) (by omega)
  -- map
  · refine pre K ?_
    have hh := ha (by omega)
    rcases s199a hT b_x b_t b_op b_a b_how b_an Hl with f0 | f0 | ⟨plainHas9, plainValue11, bOf13, g1, g2, rfl, rfl, f0, f1, f2, f3, f4, rfl, rfl, f7, f8, f9, rfl, f11, f12, T, K⟩ | ⟨plainHas9, plainValue11, bOf13, g1, g2, rfl, rfl, f0, f1, f2, f3, f4, f5, rfl, rfl, f8, f9, f10, rfl, f12, f13, T, K⟩ | ⟨plainHas9, plainValue11, bOf13, g1, g2, rfl, rfl, f0, f1, f2, f3, f4, f5, rfl, rfl, f8, f9, f10, rfl, f12, f13, T, K⟩ | ⟨plainHas9, plainValue11, bOf13, g1, g2, rfl, rfl, f0, f1, f2, f3, f4, f5, rfl, rfl, f8, f9, f10, rfl, f12, f13, f14, T, K⟩ | ⟨plainHas9, plainValue11, bOf13, g1, g2, rfl, rfl, f0, f1, f2, f3, f4, f5, rfl, rfl, f8, f9, f10, rfl, f12, f13, f14, T, K⟩ | ⟨plainHas9, plainValue11, g1, g2, rfl, rfl, f0, f1, f2, f3, rfl, rfl, f6, f7, f8, f9, f10, f11, T, K⟩ | ⟨plainHas9, plainValue11, g1, g2, rfl, rfl, f0, f1, f2, f3, f4, rfl, rfl, f7, f8, f9, f10, f11, f12, T, K⟩ | ⟨plainHas9, plainValue11, g1, g2, rfl, rfl, f0, f1, f2, f3, f4, rfl, rfl, f7, f8, f9, f10, f11, f12, T, K⟩ | ⟨plainHas9, plainValue11, g1, g2, rfl, rfl, f0, f1, f2, f3, f4, rfl, rfl, f7, f8, f9, f10, f11, f12, f13, T, K⟩ | ⟨plainHas9, plainValue11, g1, g2, rfl, rfl, f0, f1, f2, f3, f4, rfl, rfl, f7, f8, f9, f10, f11, f12, f13, T, K⟩ | ⟨plainHas9, plainValue11, g1, g2, rfl, rfl, f0, f1, f2, f3, rfl, rfl, f6, f7, f8, f9, f10, f11, f12, T, K⟩ | ⟨plainHas9, plainValue11, g1, g2, rfl, rfl, f0, f1, f2, f3, f4, rfl, rfl, f7, f8, f9, f10, f11, f12, f13, T, K⟩ | ⟨plainHas9, plainValue11, g1, g2, rfl, rfl, f0, f1, f2, f3, f4, rfl, rfl, f7, f8, f9, f10, f11, f12, f13, T, K⟩ | ⟨plainHas9, plainValue11, g1, g2, rfl, rfl, f0, f1, f2, f3, f4, rfl, rfl, f7, f8, f9, f10, f11, f12, f13, f14, T, K⟩ | ⟨plainHas9, plainValue11, g1, g2, rfl, rfl, f0, f1, f2, f3, f4, rfl, rfl, f7, f8, f9, f10, f11, f12, f13, f14, T, K⟩ | ⟨plainHas9, plainValue11, bOf13, g1, g2, rfl, rfl, f0, f1, f2, f3, f4, f5, rfl, rfl, f8, f9, rfl, f11, T, K⟩ | ⟨plainHas9, plainValue11, bOf13, plainValue14, g1, g2, rfl, rfl, f0, f1, f2, f3, f4, f5, f6, rfl, rfl, f9, f10, rfl, f12, rfl, f14, T, K⟩ | ⟨plainHas9, plainValue11, bOf13, plainValue14, g1, g2, rfl, rfl, f0, f1, f2, f3, f4, f5, f6, rfl, rfl, f9, f10, rfl, f12, rfl, f14, T, K⟩ | ⟨plainHas9, plainValue11, bOf13, n14, g1, g2, rfl, rfl, f0, f1, f2, f3, f4, f5, f6, rfl, rfl, f9, f10, rfl, f12, T, K⟩ | ⟨plainHas9, plainValue11, bOf13, n14, plainValue15, g1, g2, rfl, rfl, f0, f1, f2, f3, f4, f5, f6, f7, rfl, rfl, f10, f11, rfl, f13, rfl, f15, T, K⟩ | ⟨plainHas9, plainValue11, bOf13, n14, plainValue15, g1, g2, rfl, rfl, f0, f1, f2, f3, f4, f5, f6, f7, rfl, rfl, f10, f11, rfl, f13, rfl, f15, T, K⟩
    · exfalso; omega
    · exfalso; omega
    · exact m86 (by omega) T K
    · exact m86 (by omega) T K
    · exact m86 (by omega) T K
    · exact m86 (by omega) T K
    · exact m86 (by omega) T K
    · exact m86 (by omega) T K
    · exact m86 (by omega) T K
    · exact m86 (by omega) T K
    · exact m86 (by omega) T K
    · exact m86 (by omega) T K
    · exact m86 (by omega) T K
    · exact m86 (by omega) T K
    · exact m86 (by omega) T K
    · exact m86 (by omega) T K
    · exact m86 (by omega) T K
    · exact m87 (by omega) T K
    · exact m87 (by omega) T K
    · exact m87 (by omega) T K
    · exact m87 (by omega) T K
    · exact m87 (by omega) T K
    · exact m87 (by omega) T K
  -- queue
  · refine pre K ?_
    rcases s199b hT b_x b_t b_op b_a b_how b_an Hl with ⟨plainMany8, f0, f1, f2, rfl, f4, f5, f6, f7, f8, T, K⟩ | ⟨plainMany8, f0, f1, f2, f3, rfl, f5, f6, f7, f8, f9, T, K⟩ | ⟨plainMany8, plainRow10, f0, f1, f2, f3, rfl, f5, f6, rfl, f8, T, lv, Hl, K⟩ | ⟨plainMany9, f0, f1, f2, rfl, f4⟩ | ⟨plainMany9, g1, g2, rfl, rfl, f0, f1, f2, f3, rfl, f5, f6, T, K⟩ | ⟨plainMany9, g1, g2, rfl, rfl, f0, f1, f2, f3, rfl, f5, f6, f7, T, K⟩ | ⟨plainMany9, g1, g2, rfl, rfl, f0, f1, f2, f3, rfl, f5, f6, f7, T, K⟩
    · exact PlOut.mk K (by omega) (by omega) T (Fq.refl h) (by omega)
    · exact PlOut.mk K (by omega) (by omega) T (Fq.refl h) (by omega)
    · obtain ⟨h1, u1, u2, u3, u4⟩ := c_plainTake hT (fi := 1) (by omega) (by omega)
      have K0 := K
      have fin : ∀ {v : Int}, (0 ≤ v ∧ v ≤ 1) → (∀ d, 3 ≤ d → Ev d 199 (295, lv, [], h1, fl_tot) (some (iv v), h1, fl_tot)) → PlOut h 199 211 _ [] 5 := fun hv K => ⟨_, h1, hv, fun d hd => by
        obtain ⟨d, rfl⟩ : ∃ d', d = d' + 1 := ⟨d - 1, by omega⟩
        exact K0 d _ _ _ (by omega) (u1 d (by omega)) (K (d + 1) (by omega)), u2, u3.wide rfl rfl, by omega⟩
      rcases s199t u2.1 b_x b_t b_op b_a b_how b_an (is := 1) (by omega) (v := rd 88 0 h) (rd_int _ _ _) Hl with ⟨f0, f1, f2, T, K⟩ | ⟨f0, f1, f2, f3, T, K⟩ | ⟨f0, f1, f2, f3, T, K⟩ | ⟨f0, f1, f2, f3, f4, T, K⟩ | ⟨f0, f1, f2, f3, f4, T, K⟩
      all_goals exact fin (by omega) K
    · exfalso; omega
    · exact m68 (by omega) T K
    · exact m68 (by omega) T K
    · exact m68 (by omega) T K
  -- deque
  · refine pre K ?_
    obtain ⟨T, lv, Hl, K⟩ := s199c hT b_x b_t b_op b_a b_how b_an Hl
    obtain ⟨v, h1, v0, v1, v2, v3, v4⟩ := c_plainDeque hT b_x b_t hm
    have K0 := K
    obtain ⟨T, K⟩ := s199d v2.1 b_x b_t b_op b_a b_how b_an (r := v) v0 Hl
    exact ⟨v, h1, v0, fun d hd => by
      obtain ⟨d, rfl⟩ : ∃ d', d = d' + 1 := ⟨d - 1, by omega⟩
      exact K0 d _ _ _ (by omega) (v1 d (by omega)) (K (d + 1) (by omega)), v2, v3, v4⟩
  -- counter
  · refine pre K ?_
    rcases s199e hT b_x b_t b_op b_a b_how b_an Hl with ⟨n8, n9, plainShare11, g1, rfl, f0, f1, f2, f3, f4, rfl, rfl, rfl, f8, f9, T, K⟩ | ⟨n8, n9, plainShare11, plainShare12, plainShare13, n14, plainShare15, n16, plainShare17, n18, g1, rfl, f0, f1, f2, f3, f4, f5, f6, f7, f8, f9, f10, f11, rfl, rfl, rfl, f15, f16, f17, rfl, rfl, rfl, rfl, f22, T, K⟩ | ⟨n8, n9, plainShare11, plainShare12, plainShare13, n14, plainShare15, n16, plainShare17, n18, g1, rfl, f0, f1, f2, f3, f4, f5, f6, f7, f8, f9, f10, f11, rfl, rfl, rfl, f15, f16, f17, rfl, rfl, rfl, rfl, f22, T, K⟩ | ⟨n8, n9, plainShare11, n12, g1, rfl, f0, f1, f2, f3, f4, f5, rfl, rfl, rfl, f9, f10, T, K⟩ | ⟨n8, n9, plainShare11, n12, plainShare13, g1, rfl, f0, f1, f2, f3, f4, f5, f6, rfl, rfl, rfl, f10, f11, f12, rfl, f14, T, K⟩ | ⟨n8, n9, plainShare11, n12, plainShare13, g1, rfl, f0, f1, f2, f3, f4, f5, f6, rfl, rfl, rfl, f10, f11, f12, rfl, f14, T, K⟩
    all_goals exact m89 (by omega) T K
  -- copies
  · have hk4 : rd 32 t h = 4 := by omega
    refine pre K ?_
    rcases s199f hT b_x b_t b_op b_a b_how b_an Hl with ⟨f0, f1⟩ | ⟨f0, f1⟩ | ⟨plainHas9, plainValue11, bOf13, g1, g2, rfl, rfl, f0, f1, f2, f3, f4, f5, rfl, rfl, f8, f9, rfl, f11, f12, T, K⟩ | ⟨plainHas9, plainValue11, bOf13, g1, g2, rfl, rfl, f0, f1, f2, f3, f4, f5, f6, rfl, rfl, f9, f10, rfl, f12, f13, T, K⟩ | ⟨plainHas9, plainValue11, bOf13, g1, g2, rfl, rfl, f0, f1, f2, f3, f4, f5, f6, rfl, rfl, f9, f10, rfl, f12, f13, T, K⟩ | ⟨plainHas9, plainValue11, bOf13, g1, g2, rfl, rfl, f0, f1, f2, f3, f4, f5, f6, rfl, rfl, f9, f10, rfl, f12, f13, f14, T, K⟩ | ⟨plainHas9, plainValue11, bOf13, g1, g2, rfl, rfl, f0, f1, f2, f3, f4, f5, f6, rfl, rfl, f9, f10, rfl, f12, f13, f14, T, K⟩ | ⟨plainHas9, plainValue11, g1, g2, rfl, rfl, f0, f1, f2, f3, f4, rfl, rfl, f7, f8, f9, f10, f11, T, K⟩ | ⟨plainHas9, plainValue11, g1, g2, rfl, rfl, f0, f1, f2, f3, f4, f5, rfl, rfl, f8, f9, f10, f11, f12, T, K⟩ | ⟨plainHas9, plainValue11, g1, g2, rfl, rfl, f0, f1, f2, f3, f4, f5, rfl, rfl, f8, f9, f10, f11, f12, T, K⟩ | ⟨plainHas9, plainValue11, g1, g2, rfl, rfl, f0, f1, f2, f3, f4, f5, rfl, rfl, f8, f9, f10, f11, f12, f13, T, K⟩ | ⟨plainHas9, plainValue11, g1, g2, rfl, rfl, f0, f1, f2, f3, f4, f5, rfl, rfl, f8, f9, f10, f11, f12, f13, T, K⟩ | ⟨plainHas9, plainValue11, g1, g2, rfl, rfl, f0, f1, f2, f3, f4, rfl, rfl, f7, f8, f9, f10, f11, f12, T, K⟩ | ⟨plainHas9, plainValue11, g1, g2, rfl, rfl, f0, f1, f2, f3, f4, f5, rfl, rfl, f8, f9, f10, f11, f12, f13, T, K⟩ | ⟨plainHas9, plainValue11, g1, g2, rfl, rfl, f0, f1, f2, f3, f4, f5, rfl, rfl, f8, f9, f10, f11, f12, f13, T, K⟩ | ⟨plainHas9, plainValue11, g1, g2, rfl, rfl, f0, f1, f2, f3, f4, f5, rfl, rfl, f8, f9, f10, f11, f12, f13, f14, T, K⟩ | ⟨plainHas9, plainValue11, g1, g2, rfl, rfl, f0, f1, f2, f3, f4, f5, rfl, rfl, f8, f9, f10, f11, f12, f13, f14, T, K⟩ | ⟨f0, f1, T, lv, Hl, K⟩
    · exfalso; have := ha (by omega); omega
    · exfalso; have := ha (by omega); omega
    · exact m86 (by omega) T K
    · exact m86 (by omega) T K
    · exact m86 (by omega) T K
    · exact m86 (by omega) T K
    · exact m86 (by omega) T K
    · exact m86 (by omega) T K
    · exact m86 (by omega) T K
    · exact m86 (by omega) T K
    · exact m86 (by omega) T K
    · exact m86 (by omega) T K
    · exact m86 (by omega) T K
    · exact m86 (by omega) T K
    · exact m86 (by omega) T K
    · exact m86 (by omega) T K
    · exact m86 (by omega) T K
    · obtain ⟨w, w0, w1⟩ := c_plain_l hT b_x b_t b_op b_a b_how b_an 33 0 0 lv (by omega) (by omega) (by omega) Hl
      exact PlOut.mk (D' := 3) (fun d hd => K d _ hd (w1 d hd)) (by omega) w0 T (Fq.refl h) (by omega)
