
set_option maxRecDepth 20000
/-! ROWS OF A QUEUE; READING -/
/-- one cell of an array is set -/
def Up (K : Nat) (j v : Int) (h h' : Hp) : Prop := ∀ i, 0 ≤ i → rd K i h' = if i = j then v else rd K i h
theorem Up.wr {K : Nat} {j v : Int} {h : Hp} (hj : 0 ≤ j) (h1 : -2147483648 ≤ v) (h2 : v ≤ 2147483647) : Up K j v h (wr K j v h) := fun i hi => rd_wr hi hj h1 h2
theorem Up.eq {K : Nat} {j v w : Int} {h h' : Hp} (u : Up K j v h h') (e : v = w) : Up K j w h h' := by
  rw [← e]
  exact u
theorem c_takeFirst_l {t : Int} (b_t : 0 ≤ t ∧ t ≤ 5) : ∀ (n : Nat) (k : Int) (ls : List (Option Value)) (h : Hp), TInv h → 48 - k < n → (1 ≤ k ∧ k ≤ 48) → LVs [some (rv 31), some (iv t), some (iv k)] ls → ∃ h', (∀ d, 3 ≤ d → Ev d 173 (2, ls, [], h, fl_tot) (none, h', fl_tot)) ∧ Nx h h' ∧ Fq [68, 69] [] h h' ∧ Up 69 t (if 0 < rd 69 t h then rd 69 t h - 1 else rd 69 t h) h h' := by
  intro n
  induction n with
  | zero => intro k ls h hT h1 h2; omega
  | succ n ih =>
    intro k ls h hT h1 b_k hl
    rcases s173l hT b_t b_k hl with ⟨many5, many6, many7, g1, rfl, f0, f1, f2, rfl, f4, rfl, rfl, f7, T, K⟩ | ⟨many5, many6, many7, f0, f1, f2, rfl, f4, rfl, rfl, f7, f8⟩ | ⟨many5, many6, many7, g1, rfl, f0, f1, f2, rfl, f4, rfl, rfl, f7, T, K⟩ | ⟨many5, n7, n8, n9, n10, row11, g1, rfl, f0, f1, f2, f3, f4, f5, f6, rfl, f8, rfl, rfl, rfl, rfl, rfl, T, lv, Hl, K⟩
    all_goals first | (exfalso; omega) | skip
    · refine ⟨_, fun d hd => K d hd, T, (Fq.refl h).put 69 t _ rfl, (Up.wr (by omega) (by omega) (by omega)).eq (by rw [if_neg (by omega)])⟩
    · refine ⟨_, fun d hd => K d hd, T, (Fq.refl h).put 69 t _ rfl, (Up.wr (by omega) (by omega) (by omega)).eq (by rw [if_pos (by omega)]; omega)⟩
    · obtain ⟨h', u1, u2, u3, u4⟩ := ih (k + 1) lv _ T.1 (by omega) (by omega) Hl
      have F := (Fq.refl (Ks := [68, 69]) (fs := []) h).put 68 (48 * t + k + -1) (rd 68 (48 * t + k) h) rfl
      refine ⟨h', fun d hd => K d _ hd (u1 d hd), T.trans u2, F.trans u3, fun i hi => ?_⟩
      rw [u4 i hi]
      simp (disch := omega) only [rdk]
theorem c_takeFirst {h : Hp} (hT : TInv h) {t : Int} (b_t : 0 ≤ t ∧ t ≤ 5) : ∃ h', (∀ d, 3 ≤ d → Ev d 173 (0, fl_enter 3 [rv 31, iv t], [], h, fl_tot) (none, h', fl_tot)) ∧ Nx h h' ∧ Fq [68, 69] [] h h' ∧ Up 69 t (if 0 < rd 69 t h then rd 69 t h - 1 else rd 69 t h) h h' := by
  obtain ⟨T, lv, Hl, K⟩ := s173 hT b_t (LVs.self (fl_enter 3 [rv 31, iv t]))
  obtain ⟨h', u1, u2, u3, u4⟩ := c_takeFirst_l b_t 48 1 lv h hT (by omega) (by omega) Hl
  exact ⟨h', fun d hd => K d _ hd (u1 d hd), u2, u3, u4⟩
theorem c_putFirst_l {t a : Int} (b_t : 0 ≤ t ∧ t ≤ 5) (b_a : -2147483648 ≤ a ∧ a ≤ 2147483647) : ∀ (n : Nat) (k : Int) (ls : List (Option Value)) (h : Hp), TInv h → k ≤ n → (0 ≤ k ∧ k ≤ 40) → rd 69 t h ≤ 39 → LVs [some (rv 31), some (iv t), some (iv a), some (iv k)] ls → ∃ h', (∀ d, 3 ≤ d → Ev d 174 (7, ls, [], h, fl_tot) (none, h', fl_tot)) ∧ Nx h h' ∧ Fq [68, 69] [] h h' ∧ Up 69 t (rd 69 t h + 1) h h' := by
  intro n
  induction n with
  | zero =>
    intro k ls h hT h1 b_k hm hl
    rcases s174l hT b_t b_a b_k hl with ⟨n6, many8, g1, rfl, f0, f1, f2, f3, rfl, rfl, f6⟩ | ⟨n6, many8, g1, g2, rfl, rfl, f0, f1, f2, f3, rfl, rfl, T, K⟩ | ⟨n6, n7, n8, n9, row10, g1, rfl, f0, f1, f2, f3, f4, f5, f6, rfl, rfl, rfl, rfl, rfl, T, lv, Hl, K⟩
    · exfalso
      have e : rd 69 t (wr 68 (48 * t) a h) = rd 69 t h := by simp (disch := omega) only [rdk]
      omega
    · have e : rd 69 t (wr 68 (48 * t) a h) = rd 69 t h := by simp (disch := omega) only [rdk]
      refine ⟨_, fun d hd => K d hd, T, ((Fq.refl h).put 68 _ _ rfl).put 69 t _ rfl, fun i hi => ?_⟩
      rw [rd_wr hi (by omega) (by omega) (by omega), e]
      simp (disch := omega) only [rdk]
    · omega
  | succ n ih =>
    intro k ls h hT h1 b_k hm hl
    rcases s174l hT b_t b_a b_k hl with ⟨n6, many8, g1, rfl, f0, f1, f2, f3, rfl, rfl, f6⟩ | ⟨n6, many8, g1, g2, rfl, rfl, f0, f1, f2, f3, rfl, rfl, T, K⟩ | ⟨n6, n7, n8, n9, row10, g1, rfl, f0, f1, f2, f3, f4, f5, f6, rfl, rfl, rfl, rfl, rfl, T, lv, Hl, K⟩
    · exfalso
      have e : rd 69 t (wr 68 (48 * t) a h) = rd 69 t h := by simp (disch := omega) only [rdk]
      omega
    · have e : rd 69 t (wr 68 (48 * t) a h) = rd 69 t h := by simp (disch := omega) only [rdk]
      refine ⟨_, fun d hd => K d hd, T, ((Fq.refl h).put 68 _ _ rfl).put 69 t _ rfl, fun i hi => ?_⟩
      rw [rd_wr hi (by omega) (by omega) (by omega), e]
      simp (disch := omega) only [rdk]
    · have F := (Fq.refl (Ks := [68, 69]) (fs := []) h).put 68 (48 * t + k) (rd 68 (48 * t + k + -1) h) rfl
      obtain ⟨h', u1, u2, u3, u4⟩ := ih (k + -1) lv _ T.1 (by omega) (by omega) (by simp (disch := omega) only [rdk]; exact hm) Hl
      refine ⟨h', fun d hd => K d _ hd (u1 d hd), T.trans u2, F.trans u3, fun i hi => ?_⟩
      rw [u4 i hi]
      simp (disch := omega) only [rdk]
theorem c_putFirst {h : Hp} (hT : TInv h) {t a : Int} (b_t : 0 ≤ t ∧ t ≤ 5) (b_a : -2147483648 ≤ a ∧ a ≤ 2147483647) (hm : rd 69 t h ≤ 39) : ∃ h', (∀ d, 3 ≤ d → Ev d 174 (0, fl_enter 4 [rv 31, iv t, iv a], [], h, fl_tot) (none, h', fl_tot)) ∧ Nx h h' ∧ Fq [68, 69] [] h h' ∧ Up 69 t (rd 69 t h + 1) h h' := by
  obtain ⟨many5, f0, rfl, T, lv, Hl, K⟩ := s174 hT b_t b_a (LVs.self (fl_enter 4 [rv 31, iv t, iv a]))
  obtain ⟨h', u1, u2, u3, u4⟩ := c_putFirst_l b_t b_a 40 (rd 69 t h) lv h hT (by omega) (by omega) hm Hl
  exact ⟨h', fun d hd => K d _ hd (u1 d hd), u2, u3, u4⟩
theorem c_read_l {c x t op a : Int} (b_c : 0 ≤ c ∧ c ≤ 4) (b_x : 0 ≤ x ∧ x ≤ 39) (b_t : 0 ≤ t ∧ t ≤ 5) (b_op : 0 ≤ op ∧ op ≤ 4) (b_a : -2147483648 ≤ a ∧ a ≤ 2147483647) (ha : op ≠ 3 → 0 ≤ a ∧ a ≤ 31) : ∀ (n : Nat) (k sum : Int) (ls : List (Option Value)) (h : Hp), TInv h → 32 - k < n → (0 ≤ k ∧ k ≤ 32) → (-2147483648 ≤ sum ∧ sum ≤ 2147483647) → LVs [some (rv 31), some (iv c), some (iv x), some (iv t), some (iv op), some (iv a), some (iv sum), some (iv k)] ls → ∃ h', (∀ d, 3 ≤ d → Ev d 161 (252, ls, [], h, fl_tot) (none, h', fl_tot)) ∧ Nx h h' ∧ Fq [55, 56, 60, 61] [] h h' ∧ ∀ i, 0 ≤ i → i ≠ c → rd 55 i h' = rd 55 i h := by
  intro n
  induction n with
  | zero => intro k sum ls h hT h1 h2; omega
  | succ n ih =>
    intro k sum ls h hT h1 b_k b_sum hl
    rcases s161l hT b_c b_x b_t b_op b_a b_sum b_k hl with ⟨f0, f1, T, lv, Hl, K⟩ | ⟨n10, n11, n13, n14, has15, n17, n18, n20, n21, value22, n23, n24, has25, g1, g2, rfl, rfl, f0, f1, f2, f3, f4, f5, f6, f7, f8, f9, f10, f11, f12, f13, f14, rfl, rfl, rfl, rfl, rfl, rfl, rfl, rfl, rfl, rfl, rfl, rfl, rfl, f28, T, lv, Hl, K⟩ | ⟨n10, n11, n13, n14, has15, n17, n18, n20, n21, value22, n23, n24, has25, n26, n27, value28, n29, n30, g1, g2, rfl, rfl, f0, f1, f2, f3, f4, f5, f6, f7, f8, f9, f10, f11, f12, f13, f14, f15, f16, f17, f18, f19, rfl, rfl, rfl, rfl, rfl, rfl, rfl, rfl, rfl, rfl, rfl, rfl, rfl, f33, rfl, rfl, rfl, T, lv, Hl, K⟩
    · have K1 := K
      have T1 := T
      have F (v w : Int) := ((Fq.refl (Ks := [55, 56, 60, 61]) (fs := []) h).put 55 c v rfl).put 56 c w rfl
      have E (v w : Int) (hv : 0 ≤ v ∧ v ≤ 1) : ∀ i, 0 ≤ i → i ≠ c → rd 55 i (wr 56 c w (wr 55 c v h)) = rd 55 i h := fun i hi hne => by
        simp (disch := omega) only [rdk, rd_wr]
        rw [if_neg hne]
      rcases s161e hT b_c b_x b_t b_op b_a b_sum (Hl.fg 7 rfl) with ⟨g1, g2, rfl, rfl, f0, f1, f2, T, K⟩ | ⟨n10, f0, f1, rfl, f3⟩ | ⟨n10, f0, f1, rfl, f3⟩ | ⟨n10, n11, has12, notedHas14, g1, g2, rfl, rfl, f0, f1, f2, f3, f4, f5, rfl, rfl, rfl, f9, f10, rfl, f12, T, K⟩ | ⟨n10, n11, has12, notedHas14, n16, n17, value18, g1, g2, rfl, rfl, f0, f1, f2, f3, f4, f5, f6, f7, f8, rfl, rfl, rfl, f12, f13, rfl, f15, rfl, rfl, rfl, T, K⟩ | ⟨n10, n11, has12, g1, g2, rfl, rfl, f0, f1, f2, f3, f4, f5, rfl, rfl, rfl, f9, f10, T, K⟩ | ⟨n10, n11, has12, notedHas14, g1, g2, rfl, rfl, f0, f1, f2, f3, f4, f5, rfl, rfl, rfl, f9, f10, rfl, f12, T, K⟩ | ⟨n10, n11, has12, notedHas14, n16, n17, value18, g1, g2, rfl, rfl, f0, f1, f2, f3, f4, f5, f6, f7, f8, rfl, rfl, rfl, f12, f13, rfl, f15, rfl, rfl, rfl, T, K⟩ | ⟨n10, n11, has12, g1, g2, rfl, rfl, f0, f1, f2, f3, f4, f5, rfl, rfl, rfl, f9, f10, T, K⟩
      all_goals first | (exfalso; omega) | exact ⟨_, fun d hd => K1 d _ hd (K d hd), T, F _ _, E _ _ (by omega)⟩
    · have F (v w : Int) := ((Fq.refl (Ks := [55, 56, 60, 61]) (fs := []) h).put 60 (32 * c + k) v rfl).put 61 (32 * c + k) w rfl
      obtain ⟨h', u1, u2, u3, u4⟩ := ih (k + 1) sum lv _ T.1 (by omega) (by omega) b_sum Hl
      refine ⟨h', fun d hd => K d _ hd (u1 d hd), T.trans u2, (F _ _).trans u3, fun i hi hne => ?_⟩
      rw [u4 i hi hne]
      simp (disch := omega) only [rdk]
    · have F (v w : Int) := ((Fq.refl (Ks := [55, 56, 60, 61]) (fs := []) h).put 60 (32 * c + k) v rfl).put 61 (32 * c + k) w rfl
      obtain ⟨h', u1, u2, u3, u4⟩ := ih (k + 1) _ lv _ T.1 (by omega) (by omega) (by assumption) Hl
      refine ⟨h', fun d hd => K d _ hd (u1 d hd), T.trans u2, (F _ _).trans u3, fun i hi hne => ?_⟩
      rw [u4 i hi hne]
      simp (disch := omega) only [rdk]
theorem c_read {h : Hp} (hT : TInv h) {c x : Int} (b_c : 0 ≤ c ∧ c ≤ 4) (b_x : 0 ≤ x ∧ x ≤ 39) (M : MP h) (hs : 0 ≤ rd 31 42 h ∧ rd 31 42 h ≤ 90000) (hk : rd 32 (rd 36 x h) h ≠ 2 ∧ rd 32 (rd 36 x h) h ≠ 5) (hk0 : rd 32 (rd 36 x h) h = 0 → 0 ≤ rd 38 x h ∧ rd 38 x h ≤ 31) (hk4 : rd 32 (rd 36 x h) h = 4 → rd 37 x h ≠ 3 → 0 ≤ rd 38 x h ∧ rd 38 x h ≤ 31) :
    ∃ h', (∀ d, 6 ≤ d → Ev d 161 (0, fl_enter 8 [rv 31, iv c, iv x], [], h, fl_tot) (none, h', fl_tot)) ∧ Nx h h' ∧ Fq [55, 56, 60, 61, 65, 66, 67, 74, 75, 76, 78] [42] h h' ∧ MP h' ∧ rd 31 42 h ≤ rd 31 42 h' ∧ rd 31 42 h' ≤ rd 31 42 h + 8 ∧ (∀ i, 0 ≤ i → i ≠ c → rd 55 i h' = rd 55 i h) ∧ (rd 32 (rd 36 x h) h = 1 → rd 55 c h' = if rd 37 x h = 1 ∧ 0 < rd 69 (rd 36 x h) h then 1 else 0) := by
  have F (v w : Int) := ((Fq.refl (Ks := [55, 56]) (fs := []) h).put 55 c v rfl).put 56 c w rfl
  have E (v w : Int) (hv : 0 ≤ v ∧ v ≤ 1) : ∀ i, 0 ≤ i → rd 55 i (wr 56 c w (wr 55 c v h)) = if i = c then v else rd 55 i h := fun i hi => by
    simp (disch := omega) only [rdk, rd_wr]
  have E2 (v w : Int) (hv : 0 ≤ v ∧ v ≤ 1) : ∀ i, 0 ≤ i → i ≠ c → rd 55 i (wr 56 c w (wr 55 c v h)) = rd 55 i h := fun i hi hne => by
    rw [E v w hv i hi, if_neg hne]
  have fin : ∀ v w, (0 ≤ v ∧ v ≤ 1) → (rd 32 (rd 36 x h) h = 1 → v = if rd 37 x h = 1 ∧ 0 < rd 69 (rd 36 x h) h then 1 else 0) → Nx h (wr 56 c w (wr 55 c v h)) → (∀ d, 3 ≤ d → Ev d 161 (0, fl_enter 8 [rv 31, iv c, iv x], [], h, fl_tot) (none, wr 56 c w (wr 55 c v h), fl_tot)) → ∃ h', (∀ d, 6 ≤ d → Ev d 161 (0, fl_enter 8 [rv 31, iv c, iv x], [], h, fl_tot) (none, h', fl_tot)) ∧ Nx h h' ∧ Fq [55, 56, 60, 61, 65, 66, 67, 74, 75, 76, 78] [42] h h' ∧ MP h' ∧ rd 31 42 h ≤ rd 31 42 h' ∧ rd 31 42 h' ≤ rd 31 42 h + 8 ∧ (∀ i, 0 ≤ i → i ≠ c → rd 55 i h' = rd 55 i h) ∧ (rd 32 (rd 36 x h) h = 1 → rd 55 c h' = if rd 37 x h = 1 ∧ 0 < rd 69 (rd 36 x h) h then 1 else 0) := by
    intro v w hv hq T K
    have F1 := F v w
    refine ⟨_, fun d hd => K d (by omega), T, F1.wide rfl rfl, M.fr F1 rfl, by rw [F1.f 42 rfl]; omega, by rw [F1.f 42 rfl]; omega, E2 v w hv, fun z => ?_⟩
    rw [E v w hv _ b_c.1, if_pos rfl]
    exact hq z
  have fin2 : ∀ w, rd 32 (rd 36 x h) h ≠ 1 → Nx h (wr 56 c w h) → (∀ d, 3 ≤ d → Ev d 161 (0, fl_enter 8 [rv 31, iv c, iv x], [], h, fl_tot) (none, wr 56 c w h, fl_tot)) → ∃ h', (∀ d, 6 ≤ d → Ev d 161 (0, fl_enter 8 [rv 31, iv c, iv x], [], h, fl_tot) (none, h', fl_tot)) ∧ Nx h h' ∧ Fq [55, 56, 60, 61, 65, 66, 67, 74, 75, 76, 78] [42] h h' ∧ MP h' ∧ rd 31 42 h ≤ rd 31 42 h' ∧ rd 31 42 h' ≤ rd 31 42 h + 8 ∧ (∀ i, 0 ≤ i → i ≠ c → rd 55 i h' = rd 55 i h) ∧ (rd 32 (rd 36 x h) h = 1 → rd 55 c h' = if rd 37 x h = 1 ∧ 0 < rd 69 (rd 36 x h) h then 1 else 0) := by
    intro w hq T K
    have F1 := (Fq.refl (Ks := [56]) (fs := []) h).put 56 c w rfl
    exact ⟨_, fun d hd => K d (by omega), T, F1.wide rfl rfl, M.fr F1 rfl, by rw [F1.f 42 rfl]; omega, by rw [F1.f 42 rfl]; omega, fun i _ _ => F1.k 55 i rfl, fun z => absurd z hq⟩
  rcases s161 hT b_c b_x (LVs.self (fl_enter 8 [rv 31, iv c, iv x])) with ⟨trayOf5, opOf7, aOf9, kind11, f0, f1, f2, f3, rfl, rfl, rfl, rfl, f8, f9, f10, T, lv, Hl, K⟩ | ⟨trayOf5, opOf7, aOf9, kind11, f0, f1, f2, f3, rfl, rfl, rfl, rfl, T, lv, Hl, K⟩ | ⟨trayOf5, opOf7, aOf9, kind11, notedHas14, g1, g2, rfl, rfl, f0, f1, f2, f3, f4, rfl, rfl, rfl, rfl, f9, rfl, f11, T, K⟩ | ⟨trayOf5, opOf7, aOf9, kind11, notedHas14, n16, row17, g1, g2, rfl, rfl, f0, f1, f2, f3, f4, f5, f6, rfl, rfl, rfl, rfl, f11, rfl, f13, rfl, rfl, T, K⟩ | ⟨trayOf5, opOf7, aOf9, kind11, many14, notedHas16, g1, g2, rfl, rfl, f0, f1, f2, f3, f4, f5, rfl, rfl, rfl, rfl, f10, rfl, f12, rfl, f14, T, K⟩ | ⟨trayOf5, opOf7, aOf9, kind11, many14, notedHas16, n18, row19, g1, g2, rfl, rfl, f0, f1, f2, f3, f4, f5, f6, f7, rfl, rfl, rfl, rfl, f12, rfl, f14, rfl, f16, rfl, rfl, T, K⟩ | ⟨trayOf5, opOf7, aOf9, kind11, many14, notedHas16, g1, g2, rfl, rfl, f0, f1, f2, f3, f4, f5, rfl, rfl, rfl, rfl, f10, rfl, f12, rfl, f14, T, K⟩ | ⟨trayOf5, opOf7, aOf9, kind11, many14, notedHas16, n18, row19, g1, g2, rfl, rfl, f0, f1, f2, f3, f4, f5, f6, f7, rfl, rfl, rfl, rfl, f12, rfl, f14, rfl, f16, rfl, rfl, T, K⟩ | ⟨trayOf5, opOf7, aOf9, kind11, f0, f1, f2, f3, rfl, rfl, rfl, rfl, f8, f9, f10, T, lv, Hl, K⟩ | ⟨trayOf5, opOf7, aOf9, kind11, n14, share15, n16, share17, n18, n19, share20, n21, n22, share23, n24, g1, rfl, f0, f1, f2, f3, f4, f5, f6, f7, f8, f9, f10, f11, f12, f13, f14, rfl, rfl, rfl, rfl, f19, rfl, rfl, rfl, rfl, rfl, rfl, rfl, rfl, T, K⟩ | ⟨trayOf5, opOf7, aOf9, kind11, n14, n15, n16, share17, g1, rfl, f0, f1, f2, f3, f4, f5, f6, f7, rfl, rfl, rfl, rfl, f12, rfl, rfl, rfl, rfl, T, K⟩
  · obtain ⟨h', u1, u2, u3, u4⟩ := c_read_l b_c b_x f0 f1 f2 (fun z => hk4 (by omega) z) 33 0 0 lv h hT (by omega) (by omega) (by omega) Hl
    exact ⟨h', fun d hd => K d _ (by omega) (u1 d (by omega)), u2, u3.wide rfl rfl, M.fr u3 rfl, by rw [u3.f 42 rfl]; omega, by rw [u3.f 42 rfl]; omega, u4, fun z => by omega⟩
  · have hkk : rd 32 (rd 36 x h) h = 0 := by omega
    obtain ⟨h1, v1, v2, v3, v4, v5, v6⟩ := c_moves hT f0 (hk0 hkk) M hkk hs
    have K1 := K
    have fi : ∀ v w, (0 ≤ v ∧ v ≤ 1) → Nx h1 (wr 56 c w (wr 55 c v h1)) → (∀ d, 3 ≤ d → Ev d 161 (67, lv, [], h1, fl_tot) (none, wr 56 c w (wr 55 c v h1), fl_tot)) → ∃ h', (∀ d, 6 ≤ d → Ev d 161 (0, fl_enter 8 [rv 31, iv c, iv x], [], h, fl_tot) (none, h', fl_tot)) ∧ Nx h h' ∧ Fq [55, 56, 60, 61, 65, 66, 67, 74, 75, 76, 78] [42] h h' ∧ MP h' ∧ rd 31 42 h ≤ rd 31 42 h' ∧ rd 31 42 h' ≤ rd 31 42 h + 8 ∧ (∀ i, 0 ≤ i → i ≠ c → rd 55 i h' = rd 55 i h) ∧ (rd 32 (rd 36 x h) h = 1 → rd 55 c h' = if rd 37 x h = 1 ∧ 0 < rd 69 (rd 36 x h) h then 1 else 0) := by
      intro v w hv T2 K2
      have F1 := ((Fq.refl (Ks := [55, 56]) (fs := []) h1).put 55 c v rfl).put 56 c w rfl
      refine ⟨_, fun d hd => ?_, v2.trans T2, (v3.wide rfl rfl).trans (F1.wide rfl rfl), v4.fr F1 rfl, by rw [F1.f 42 rfl]; omega, by rw [F1.f 42 rfl]; omega, fun i hi hne => ?_, fun z => by omega⟩
      · obtain ⟨d, rfl⟩ : ∃ d', d = d' + 1 := ⟨d - 1, by omega⟩
        exact K1 d _ _ _ (by omega) (v1 d (by omega)) (K2 (d + 1) (by omega))
      · rw [← v3.k 55 i rfl]
        simp (disch := omega) only [rdk, rd_wr]
        rw [if_neg hne]
    rcases s161m v2.1 b_c b_x f0 f1 (hk0 hkk) Hl with ⟨n9, n10, has11, notedHas13, g1, g2, rfl, rfl, f0, f1, f2, f3, rfl, rfl, rfl, rfl, f8, T, K⟩ | ⟨n9, n10, has11, notedHas13, n15, n16, value17, g1, g2, rfl, rfl, f0, f1, f2, f3, f4, f5, f6, rfl, rfl, rfl, rfl, f11, rfl, rfl, rfl, T, K⟩
    · exact fi _ _ (by assumption) T K
    · exact fi _ _ (by assumption) T K
  · exact fin 0 _ (by omega) (fun _ => by rw [if_neg (by omega)]) T K
  · exact fin 0 _ (by omega) (fun _ => by rw [if_neg (by omega)]) T K
  · exact fin 0 _ (by omega) (fun _ => by rw [if_neg (by omega)]) T K
  · exact fin 0 _ (by omega) (fun _ => by rw [if_neg (by omega)]) T K
  · exact fin 1 _ (by omega) (fun _ => by rw [if_pos (by omega)]) T K
  · exact fin 1 _ (by omega) (fun _ => by rw [if_pos (by omega)]) T K
  · exfalso; omega
  · exact fin2 _ (by omega) T K
  · exact fin2 _ (by omega) T K
