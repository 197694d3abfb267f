
set_option maxRecDepth 20000
/-! THE PLAIN TRAY -/
theorem c_plainTake_l {fi : Int} (b_fi : 0 ≤ fi ∧ fi ≤ 1) : ∀ (n : Nat) (k : Int) (ls : List (Option Value)) (h : Hp), TInv h → 12 - k < n → (1 ≤ k ∧ k ≤ 12) → 1 ≤ rd 31 68 h → LVs [some (rv 31), some (iv fi), some (iv k)] ls → ∃ h', (∀ d, 3 ≤ d → Ev d 201 (2, ls, [], h, fl_tot) (none, h', fl_tot)) ∧ Nx h h' ∧ Fq [88] [68] h h' ∧ rd 31 68 h' = rd 31 68 h - 1 := by
  intro n
  induction n with
  | zero => intro k ls h hT h1 h2; omega
  | succ n ih =>
    intro k ls h hT h1 b_k hm hl
    have bm : 0 ≤ rd 31 68 h ∧ rd 31 68 h ≤ 12 := rdt_ok hT 31 68
    rcases s201l hT b_fi b_k hl with ⟨plainMany4, f0, rfl, f2, f3, f4⟩ | ⟨plainMany4, g1, rfl, f0, rfl, f2, f3, T, K⟩ | ⟨plainMany4, g1, rfl, f0, f1, f2, rfl, f4, f5, f6, T, K⟩ | ⟨plainMany4, plainRow6, g1, rfl, f0, f1, f2, f3, rfl, f5, f6, rfl, T, lv, Hl, K⟩
    all_goals first | (exfalso; omega) | skip
    · exact ⟨_, K, T, (Fq.refl h).putf 68 _ rfl, by rw [rd_eq (by omega) (by omega)]; omega⟩
    · exact ⟨_, K, T, (Fq.refl h).putf 68 _ rfl, by rw [rd_eq (by omega) (by omega)]; omega⟩
    · have F := (Fq.refl (Ks := [88]) (fs := [68]) h).put 88 (k + -1) (rd 88 k h) rfl
      have e : rd 31 68 (wr 88 (k + -1) (rd 88 k h) h) = rd 31 68 h := by simp (disch := omega) only [rdk]
      obtain ⟨h', u1, u2, u3, u4⟩ := ih (k + 1) lv _ T.1 (by omega) (by omega) (by omega) Hl
      exact ⟨h', fun d hd => K d _ hd (u1 d hd), T.trans u2, F.trans u3, by omega⟩
theorem c_plainTake {h : Hp} (hT : TInv h) {fi : Int} (b_fi : 0 ≤ fi ∧ fi ≤ 1) (hm : 1 ≤ rd 31 68 h) : ∃ h', (∀ d, 3 ≤ d → Ev d 201 (0, fl_enter 3 [rv 31, iv fi], [], h, fl_tot) (none, h', fl_tot)) ∧ Nx h h' ∧ Fq [88] [68] h h' ∧ rd 31 68 h' = rd 31 68 h - 1 := by
  obtain ⟨T, lv, Hl, K⟩ := s201 hT b_fi (LVs.self (fl_enter 3 [rv 31, iv fi]))
  obtain ⟨h', u1, u2, u3, u4⟩ := c_plainTake_l b_fi 12 1 lv h hT (by omega) (by omega) hm Hl
  exact ⟨h', fun d hd => K d _ hd (u1 d hd), u2, u3, u4⟩
def PlOut (h : Hp) (m pc : Nat) (ls : List (Option Value)) (st : List Value) (D : Nat) : Prop := ∃ v h', (0 ≤ v ∧ v ≤ 1) ∧ (∀ d, D ≤ d → Ev d m (pc, ls, st, h, fl_tot) (some (iv v), h', fl_tot)) ∧ Nx h h' ∧ Fq [86, 87, 88, 89] [68, 69] h h' ∧ rd 31 68 h' ≤ rd 31 68 h + 1
theorem PlOut.mk {h h' : Hp} {m pc : Nat} {ls : List (Option Value)} {st : List Value} {D D' : Nat} {v : Int} (K : ∀ d, D' ≤ d → Ev d m (pc, ls, st, h, fl_tot) (some (iv v), h', fl_tot)) (hD : D' ≤ D) (hv : 0 ≤ v ∧ v ≤ 1) (T : Nx h h') (F : Fq [86, 87, 88, 89] [68, 69] h h') (e : rd 31 68 h' ≤ rd 31 68 h + 1) : PlOut h m pc ls st D := ⟨v, h', hv, fun d hd => K d (by omega), T, F, e⟩
theorem c_pd_l {x t op a how : Int} (b_x : 0 ≤ x ∧ x ≤ 39) (b_t : 0 ≤ t ∧ t ≤ 5) (b_op : 0 ≤ op ∧ op ≤ 4) (b_a : -2147483648 ≤ a ∧ a ≤ 2147483647) (b_how : 0 ≤ how ∧ how ≤ 6) : ∀ (n : Nat) (k : Int) (ls : List (Option Value)) (h : Hp), TInv h → k ≤ n → (0 ≤ k ∧ k ≤ 11) → rd 31 68 h ≤ 11 → LVs [some (rv 31), some (iv x), some (iv t), some (iv op), some (iv a), some (iv how), some (iv k)] ls → PlOut h 202 98 ls [] 3 := by
  intro n
  induction n with
  | zero =>
    intro k ls h hT h1 b_k hm hl
    have bm : 0 ≤ rd 31 68 h ∧ rd 31 68 h ≤ 12 := rdt_ok hT 31 68
    have F (j : Int) := ((Fq.refl (Ks := [86, 87, 88, 89]) (fs := [68, 69]) h).put 88 j a rfl).putf 68 (rd 31 68 h + 1) rfl
    rcases s202l hT b_x b_t b_op b_a b_how b_k hl with ⟨plainMany9, f0, f1, f2, f3, rfl, f5⟩ | ⟨plainMany9, g1, g2, rfl, rfl, f0, f1, f2, f3, f4, rfl, f6, f7, T, K⟩ | ⟨plainMany9, answers11, g1, g2, rfl, rfl, f0, f1, f2, f3, f4, f5, rfl, f7, f8, rfl, f10, T, K⟩ | ⟨plainMany9, answers11, g1, g2, rfl, rfl, f0, f1, f2, f3, f4, f5, rfl, f7, f8, rfl, f10, T, K⟩ | ⟨plainMany9, g1, rfl, f0, f1, f2, f3, f4, rfl, f6⟩ | ⟨plainMany9, g1, g2, rfl, rfl, f0, f1, f2, f3, f4, f5, rfl, f7, T, K⟩ | ⟨plainMany9, answers11, g1, g2, rfl, rfl, f0, f1, f2, f3, f4, f5, f6, rfl, f8, rfl, f10, T, K⟩ | ⟨plainMany9, answers11, g1, g2, rfl, rfl, f0, f1, f2, f3, f4, f5, f6, rfl, f8, rfl, f10, T, K⟩ | ⟨plainMany9, f0, f1, f2, f3, f4, rfl, f6⟩ | ⟨plainMany9, g1, g2, rfl, rfl, f0, f1, f2, f3, f4, f5, rfl, f7, f8, T, K⟩ | ⟨plainMany9, answers11, g1, g2, rfl, rfl, f0, f1, f2, f3, f4, f5, f6, rfl, f8, f9, rfl, f11, T, K⟩ | ⟨plainMany9, answers11, g1, g2, rfl, rfl, f0, f1, f2, f3, f4, f5, f6, rfl, f8, f9, rfl, f11, T, K⟩ | ⟨plainMany9, g1, rfl, f0, f1, f2, f3, f4, f5, rfl, f7⟩ | ⟨plainMany9, g1, g2, rfl, rfl, f0, f1, f2, f3, f4, f5, f6, rfl, f8, T, K⟩ | ⟨plainMany9, answers11, g1, g2, rfl, rfl, f0, f1, f2, f3, f4, f5, f6, f7, rfl, f9, rfl, f11, T, K⟩ | ⟨plainMany9, answers11, g1, g2, rfl, rfl, f0, f1, f2, f3, f4, f5, f6, f7, rfl, f9, rfl, f11, T, K⟩ | ⟨plainRow9, g1, rfl, f0, f1, f2, f3, f4, rfl, T, lv, Hl, K⟩
    all_goals first | (exfalso; omega) | skip
    all_goals exact PlOut.mk K (Nat.le_refl _) (by omega) T (F _) (by rw [rd_eq (by omega) (by omega)]; omega)
  | succ n ih =>
    intro k ls h hT h1 b_k hm hl
    have bm : 0 ≤ rd 31 68 h ∧ rd 31 68 h ≤ 12 := rdt_ok hT 31 68
    have F (j : Int) := ((Fq.refl (Ks := [86, 87, 88, 89]) (fs := [68, 69]) h).put 88 j a rfl).putf 68 (rd 31 68 h + 1) rfl
    rcases s202l hT b_x b_t b_op b_a b_how b_k hl with ⟨plainMany9, f0, f1, f2, f3, rfl, f5⟩ | ⟨plainMany9, g1, g2, rfl, rfl, f0, f1, f2, f3, f4, rfl, f6, f7, T, K⟩ | ⟨plainMany9, answers11, g1, g2, rfl, rfl, f0, f1, f2, f3, f4, f5, rfl, f7, f8, rfl, f10, T, K⟩ | ⟨plainMany9, answers11, g1, g2, rfl, rfl, f0, f1, f2, f3, f4, f5, rfl, f7, f8, rfl, f10, T, K⟩ | ⟨plainMany9, g1, rfl, f0, f1, f2, f3, f4, rfl, f6⟩ | ⟨plainMany9, g1, g2, rfl, rfl, f0, f1, f2, f3, f4, f5, rfl, f7, T, K⟩ | ⟨plainMany9, answers11, g1, g2, rfl, rfl, f0, f1, f2, f3, f4, f5, f6, rfl, f8, rfl, f10, T, K⟩ | ⟨plainMany9, answers11, g1, g2, rfl, rfl, f0, f1, f2, f3, f4, f5, f6, rfl, f8, rfl, f10, T, K⟩ | ⟨plainMany9, f0, f1, f2, f3, f4, rfl, f6⟩ | ⟨plainMany9, g1, g2, rfl, rfl, f0, f1, f2, f3, f4, f5, rfl, f7, f8, T, K⟩ | ⟨plainMany9, answers11, g1, g2, rfl, rfl, f0, f1, f2, f3, f4, f5, f6, rfl, f8, f9, rfl, f11, T, K⟩ | ⟨plainMany9, answers11, g1, g2, rfl, rfl, f0, f1, f2, f3, f4, f5, f6, rfl, f8, f9, rfl, f11, T, K⟩ | ⟨plainMany9, g1, rfl, f0, f1, f2, f3, f4, f5, rfl, f7⟩ | ⟨plainMany9, g1, g2, rfl, rfl, f0, f1, f2, f3, f4, f5, f6, rfl, f8, T, K⟩ | ⟨plainMany9, answers11, g1, g2, rfl, rfl, f0, f1, f2, f3, f4, f5, f6, f7, rfl, f9, rfl, f11, T, K⟩ | ⟨plainMany9, answers11, g1, g2, rfl, rfl, f0, f1, f2, f3, f4, f5, f6, f7, rfl, f9, rfl, f11, T, K⟩ | ⟨plainRow9, g1, rfl, f0, f1, f2, f3, f4, rfl, T, lv, Hl, K⟩
    all_goals first | (exfalso; omega) | skip
    all_goals first
      | (have F1 := (Fq.refl (Ks := [86, 87, 88, 89]) (fs := [68, 69]) h).put 88 k (rd 88 (k + -1) h) rfl
         have e : rd 31 68 (wr 88 k (rd 88 (k + -1) h) h) = rd 31 68 h := by simp (disch := omega) only [rdk]
         obtain ⟨v, h', v0, v1, v2, v3, v4⟩ := ih (k + -1) lv _ T.1 (by omega) (by omega) (by omega) Hl
         exact PlOut.mk (fun d hd => K d _ hd (v1 d hd)) (Nat.le_refl _) v0 (T.trans v2) (F1.trans v3) (by omega))
      | exact PlOut.mk K (Nat.le_refl _) (by omega) T (F _) (by rw [rd_eq (by omega) (by omega)]; omega)
theorem c_plainDeque {h : Hp} (hT : TInv h) {x t : Int} (b_x : 0 ≤ x ∧ x ≤ 39) (b_t : 0 ≤ t ∧ t ≤ 5) (hm : rd 31 68 h ≤ 11) : PlOut h 202 0 (fl_enter 7 [rv 31, iv x, iv t]) [] 4 := by
  have bm : 0 ≤ rd 31 68 h ∧ rd 31 68 h ≤ 12 := rdt_ok hT 31 68
  have b_op := rda_ok hT 37 40 0 4 rfl (i := x) (by omega) (by omega)
  have b_how := rda_ok hT 47 40 0 6 rfl (i := x) (by omega) (by omega)
  have F1 := (Fq.refl (Ks := [86, 87, 88, 89]) (fs := [68, 69]) h).putf 69 1 rfl
  have e1 : rd 31 68 (wr 31 69 1 h) = rd 31 68 h := rd_ne (by decide) (by decide) (by decide)
  have go : ∀ {fi w : Int} {lv : List (Option Value)}, (0 ≤ fi ∧ fi ≤ 1) → 1 ≤ rd 31 68 h → (-2147483648 ≤ w ∧ w ≤ 2147483647) → LVs [some (rv 31), some (iv x), some (iv t), some (iv (rd 37 x h)), some (iv (rd 38 x h)), some (iv (rd 47 x h)), some (iv w)] lv → (∀ d vv hh rr, 2 ≤ d → Ev d 201 (0, fl_enter 3 [rv 31, iv fi], [], h, fl_tot) (vv, hh, fl_tot) → Ev (d + 1) 202 (244, lv, vv.toList ++ [], hh, fl_tot) rr → Ev (d + 1) 202 (0, fl_enter 7 [rv 31, iv x, iv t], [], h, fl_tot) rr) → PlOut h 202 0 (fl_enter 7 [rv 31, iv x, iv t]) [] 4 := by
    intro fi w lv q1 q2 q3 Hl K0
    obtain ⟨h1, u1, u2, u3, u4⟩ := c_plainTake hT q1 q2
    have fin : ∀ {v : Int}, (0 ≤ v ∧ v ≤ 1) → (∀ d, 3 ≤ d → Ev d 202 (244, lv, [], h1, fl_tot) (some (iv v), h1, fl_tot)) → PlOut h 202 0 (fl_enter 7 [rv 31, iv x, iv t]) [] 4 := fun hv K => ⟨_, h1, hv, fun d hd => by
      obtain ⟨d, rfl⟩ : ∃ d', d = d' + 1 := ⟨d - 1, by omega⟩
      exact K0 d _ _ _ (by omega) (u1 d (by omega)) (K (d + 1) (by omega)), u2, u3.wide rfl rfl, by omega⟩
    rcases s202r u2.1 b_x b_t b_op (rd_int 38 x h) b_how q3 Hl with ⟨f0, f1, T, K⟩ | ⟨answers9, f0, f1, f2, rfl, f4, T, K⟩ | ⟨answers9, f0, f1, f2, rfl, f4, T, K⟩
    all_goals exact fin (by omega) K
  rcases s202 hT b_x b_t (LVs.self (fl_enter 7 [rv 31, iv x, iv t])) with ⟨opOf5, aOf7, outcomes9, plainMany10, plainRow12, f0, f1, f2, f3, f4, rfl, rfl, rfl, f8, f9, rfl, f11, f12, f13, rfl, f15, T, lv, Hl, K⟩ | ⟨opOf5, aOf7, outcomes9, plainMany10, plainRow12, f0, f1, f2, f3, f4, rfl, rfl, rfl, f8, f9, rfl, f11, f12, rfl, f14, T, lv, Hl, K⟩ | ⟨opOf5, aOf7, outcomes9, plainMany10, plainClosed11, f0, f1, f2, f3, f4, rfl, rfl, rfl, f8, f9, rfl, f11, rfl, f13, T, K⟩ | ⟨opOf5, aOf7, outcomes9, plainMany10, plainClosed11, f0, f1, f2, f3, f4, rfl, rfl, rfl, f8, f9, rfl, f11, rfl, f13, f14, T, K⟩ | ⟨opOf5, aOf7, outcomes9, plainMany10, plainClosed11, f0, f1, f2, f3, f4, rfl, rfl, rfl, f8, f9, rfl, f11, rfl, f13, f14, T, K⟩ | ⟨opOf5, aOf7, outcomes9, plainClosed10, plainMany11, room13, f0, f1, f2, f3, f4, f5, rfl, rfl, rfl, f9, f10, rfl, f12, rfl, rfl, f15, f16, f17⟩ | ⟨opOf5, aOf7, outcomes9, plainClosed10, plainMany11, room13, f0, f1, f2, f3, f4, f5, rfl, rfl, rfl, f9, f10, rfl, f12, rfl, rfl, f15, f16, T, lv, Hl, K⟩ | ⟨opOf5, aOf7, outcomes9, plainClosed10, plainMany11, room13, f0, f1, f2, f3, f4, f5, rfl, rfl, rfl, f9, f10, rfl, f12, rfl, rfl, f15, T, K⟩ | ⟨opOf5, aOf7, outcomes9, plainClosed10, f0, f1, f2, f3, rfl, rfl, rfl, f7, f8, rfl, f10, f11, T, K⟩ | ⟨opOf5, aOf7, outcomes9, plainClosed10, f0, f1, f2, f3, rfl, rfl, rfl, f7, f8, rfl, f10, f11, T, K⟩ | ⟨opOf5, aOf7, outcomes9, g1, rfl, f0, f1, f2, rfl, rfl, rfl, f6, f7, T, K⟩ | ⟨opOf5, aOf7, outcomes9, answers11, g1, rfl, f0, f1, f2, f3, rfl, rfl, rfl, f7, f8, rfl, f10, T, K⟩ | ⟨opOf5, aOf7, outcomes9, answers11, g1, rfl, f0, f1, f2, f3, rfl, rfl, rfl, f7, f8, rfl, f10, T, K⟩
  all_goals first | (exfalso; omega) | skip
  · exact go (by omega) (by omega) (rd_int _ _ _) Hl K
  · exact go (by omega) (by omega) (rd_int _ _ _) Hl K
  · exact PlOut.mk K (by omega) (by omega) T (Fq.refl h) (by omega)
  · exact PlOut.mk K (by omega) (by omega) T (Fq.refl h) (by omega)
  · exact PlOut.mk K (by omega) (by omega) T (Fq.refl h) (by omega)
  · obtain ⟨v, h', v0, v1, v2, v3, v4⟩ := c_pd_l b_x b_t (by omega) (by omega) (by omega) 11 (rd 31 68 h) lv h hT (by omega) (by omega) hm Hl
    exact PlOut.mk (D' := 3) (fun d hd => K d _ hd (v1 d hd)) (by omega) v0 v2 v3 v4
  · exact PlOut.mk K (by omega) (by omega) T (Fq.refl h) (by omega)
  · exact PlOut.mk K (by omega) (by omega) T (Fq.refl h) (by omega)
  · exact PlOut.mk K (by omega) (by omega) T (Fq.refl h) (by omega)
  · exact PlOut.mk K (by omega) (by omega) T F1 (by omega)
  · exact PlOut.mk K (by omega) (by omega) T F1 (by omega)
  · exact PlOut.mk K (by omega) (by omega) T F1 (by omega)
