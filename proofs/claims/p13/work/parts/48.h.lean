
set_option maxRecDepth 20000
/-! WRITING: up to the waking -/
theorem c_write_p {h : Hp} (hT : TInv h) {c x : Int} (b_c : 0 ≤ c ∧ c ≤ 4) (b_x : 0 ≤ x ∧ x ≤ 39) (M : MP h) (hs : 0 ≤ rd 31 42 h ∧ rd 31 42 h ≤ 99999) (ha : rd 32 (rd 36 x h) h = 0 ∨ rd 32 (rd 36 x h) h = 5 → 0 ≤ rd 38 x h ∧ rd 38 x h ≤ 31) (hm : rd 32 (rd 36 x h) h = 1 ∧ rd 37 x h = 0 ∨ rd 32 (rd 36 x h) h = 2 ∧ rd 37 x h < 2 → rd 69 (rd 36 x h) h ≤ 39) :
    ∃ h1 ls', LVs [some (rv 31), some (iv c), some (iv x), some (iv (rd 36 x h)), some (iv (rd 37 x h)), some (iv (rd 38 x h)), none] ls' ∧ (∀ d r, 6 ≤ d → Ev d 169 (452, ls', [], h1, fl_tot) r → Ev d 169 (0, fl_enter 7 [rv 31, iv c, iv x], [], h, fl_tot) r) ∧ Nx h h1 ∧ WpP h c x h1 := by
  have b_t := rda_ok hT 36 40 0 5 rfl (i := x) (by omega) (by omega)
  have b_k := rda_ok hT 32 6 0 5 rfl (i := rd 36 x h) (by omega) (by omega)
  have b_op := rda_ok hT 37 40 0 4 rfl (i := x) (by omega) (by omega)
  have b_a := rd_int 38 x h
  have b_m := rda_ok hT 69 6 0 40 rfl (i := rd 36 x h) (by omega) (by omega)
  have mkA : ∀ {G : Hp}, Fq [56, 68, 69, 70, 71] [] h G → Up 69 (rd 36 x h) (manyV h c x) h G → Up 70 (rd 36 x h) (closV h c x) h G → rd 32 (rd 36 x h) h ≠ 5 → WpP h c x G := fun F u1 u2 hk =>
    ⟨F.wide rfl rfl, M.fr F rfl, by rw [F.f 42 rfl]; omega, by rw [F.f 42 rfl]; omega, u1, u2, fun z => absurd z hk, fun _ => ⟨fun i _ => F.k 72 i rfl, fun i _ _ => F.k 63 i rfl⟩⟩
  have mV0 : (rd 32 (rd 36 x h) h ≠ 1 ∧ rd 32 (rd 36 x h) h ≠ 2) → manyV h c x = rd 69 (rd 36 x h) h ∧ closV h c x = rd 70 (rd 36 x h) h := fun z => by
    unfold manyV closV
    exact ⟨by rw [if_neg (by omega), if_neg (by omega)], by rw [if_neg (by omega)]⟩
  have cV1 : rd 32 (rd 36 x h) h = 1 → closV h c x = rd 70 (rd 36 x h) h := fun z => by
    unfold closV
    rw [if_neg (by omega)]
  have mkM : ∀ {G : Hp}, Fq [56, 63, 64, 65, 66, 67, 75, 76, 77] [42] h G → MP G → rd 31 42 h ≤ rd 31 42 G → rd 31 42 G ≤ rd 31 42 h + 1 → (∀ i, 0 ≤ i → i < 32 * rd 36 x h ∨ 32 * rd 36 x h + 32 ≤ i → rd 63 i G = rd 63 i h) → (rd 32 (rd 36 x h) h ≠ 1 ∧ rd 32 (rd 36 x h) h ≠ 2) → rd 32 (rd 36 x h) h ≠ 5 → WpP h c x G := fun F M1 s1 s2 o z hk =>
    ⟨F.wide rfl rfl, M1, s1, s2, (Up.same fun i _ => F.k 69 i rfl).eq (mV0 z).1.symm, (Up.same fun i _ => F.k 70 i rfl).eq (mV0 z).2.symm, fun q => absurd q hk, fun _ => ⟨fun i _ => F.k 72 i rfl, o⟩⟩
  have u70 : ∀ {G : Hp}, Fq [56, 68, 69, 71] [] h G → closV h c x = rd 70 (rd 36 x h) h → Up 70 (rd 36 x h) (closV h c x) h G := fun F e => (Up.same fun i _ => F.k 70 i rfl).eq e.symm
  have u69 : ∀ {G : Hp}, Fq [56, 70, 71] [] h G → manyV h c x = rd 69 (rd 36 x h) h → Up 69 (rd 36 x h) (manyV h c x) h G := fun F e => (Up.same fun i _ => F.k 69 i rfl).eq e.symm
  have mkO : ∀ {G : Hp}, Fq [63, 64, 65, 66, 67, 72, 75, 76, 77] [42] h G → MP G → rd 31 42 h ≤ rd 31 42 G → rd 31 42 G ≤ rd 31 42 h + 1 → rd 32 (rd 36 x h) h = 5 → Up 72 (32 * rd 36 x h + rd 38 x h) 0 h G → Up 63 (32 * rd 36 x h + rd 38 x h) (if rd 58 c h = 0 then 1 else rd 63 (32 * rd 36 x h + rd 38 x h) h) h G → WpP h c x G := fun F M1 s1 s2 hk o1 o2 =>
    ⟨F.wide rfl rfl, M1, s1, s2, (Up.same fun i _ => F.k 69 i rfl).eq (mV0 (by omega)).1.symm, (Up.same fun i _ => F.k 70 i rfl).eq (mV0 (by omega)).2.symm, fun _ => ⟨o1, o2⟩, fun q => absurd hk q⟩
  have putl : ∀ {w : Int}, (0 ≤ w) → manyV h c x = rd 69 (rd 36 x h) h + 1 → rd 69 (rd 36 x h) h ≤ 39 → Fq [68, 69] [] h (wr 69 (rd 36 x h) (rd 69 (rd 36 x h) h + 1) (wr 68 w (rd 38 x h) h)) ∧ Up 69 (rd 36 x h) (manyV h c x) h (wr 69 (rd 36 x h) (rd 69 (rd 36 x h) h + 1) (wr 68 w (rd 38 x h) h)) := fun hw e l => ⟨((Fq.refl h).put 68 _ _ rfl).put 69 _ _ rfl, fun i hi => by
    rw [e]
    simp (disch := omega) only [rdk, rd_wr]⟩
  rcases s169 hT b_c b_x (LVs.self (fl_enter 7 [rv 31, iv c, iv x])) with ⟨trayOf5, opOf7, aOf9, kind11, n13, f0, f1, f2, f3, f4, rfl, rfl, rfl, rfl, f9, f10, f11, f12, f13, rfl, f15⟩ | ⟨trayOf5, opOf7, aOf9, kind11, n13, f0, f1, f2, f3, f4, rfl, rfl, rfl, rfl, f9, f10, f11, f12, f13, rfl, f15⟩ | ⟨trayOf5, opOf7, aOf9, kind11, n13, n14, threw16, g1, rfl, f0, f1, f2, f3, f4, f5, f6, rfl, rfl, rfl, rfl, f11, f12, f13, f14, f15, rfl, rfl, rfl, f19, T, lv, Hl, K⟩ | ⟨trayOf5, opOf7, aOf9, kind11, n13, n14, threw16, n17, n18, n19, n20, g1, rfl, f0, f1, f2, f3, f4, f5, f6, f7, f8, f9, f10, rfl, rfl, rfl, rfl, f15, f16, f17, f18, f19, rfl, rfl, rfl, f23, rfl, rfl, rfl, rfl, T, lv, Hl, K⟩ | ⟨trayOf5, opOf7, aOf9, kind11, noted13, bOf15, n16, f0, f1, f2, f3, f4, f5, f6, rfl, rfl, rfl, rfl, f11, f12, rfl, rfl, T, lv, Hl, K⟩ | ⟨trayOf5, opOf7, aOf9, kind11, bOf13, f0, f1, f2, f3, f4, rfl, rfl, rfl, rfl, f9, f10, rfl, T, lv, Hl, K⟩ | ⟨trayOf5, opOf7, aOf9, kind11, n13, f0, f1, f2, f3, f4, rfl, rfl, rfl, rfl, f9, rfl, f11⟩ | ⟨trayOf5, opOf7, aOf9, kind11, n13, f0, f1, f2, f3, f4, rfl, rfl, rfl, rfl, f9, rfl, f11⟩ | ⟨trayOf5, opOf7, aOf9, kind11, n13, n14, g1, rfl, f0, f1, f2, f3, f4, f5, rfl, rfl, rfl, rfl, f10, rfl, rfl, T, lv, Hl, K⟩ | ⟨trayOf5, opOf7, aOf9, kind11, notedHas13, f0, f1, f2, f3, f4, rfl, rfl, rfl, rfl, f9, rfl, f11, T, lv, Hl, K⟩ | ⟨trayOf5, opOf7, aOf9, kind11, notedHas13, f0, f1, f2, f3, f4, rfl, rfl, rfl, rfl, f9, rfl, f11, T, lv, Hl, K⟩ | ⟨trayOf5, opOf7, aOf9, kind11, n13, many15, n16, many17, g1, rfl, f0, f1, f2, f3, f4, f5, f6, f7, rfl, rfl, rfl, rfl, f12, rfl, rfl, rfl, rfl, f17⟩ | ⟨trayOf5, opOf7, aOf9, kind11, n13, many15, n16, many17, g1, g2, rfl, rfl, f0, f1, f2, f3, f4, f5, f6, f7, rfl, rfl, rfl, rfl, f12, rfl, rfl, rfl, rfl, T, lv, Hl, K⟩ | ⟨trayOf5, opOf7, aOf9, kind11, notedClosed13, f0, f1, f2, f3, f4, rfl, rfl, rfl, rfl, rfl, f10, T, lv, Hl, K⟩ | ⟨trayOf5, opOf7, aOf9, kind11, notedClosed13, g1, rfl, f0, f1, f2, f3, f4, rfl, rfl, rfl, rfl, rfl, f10, f11, f12, f13, f14, T, lv, Hl, K⟩ | ⟨trayOf5, opOf7, aOf9, kind11, notedClosed13, many15, many16, g1, rfl, f0, f1, f2, f3, f4, f5, f6, rfl, rfl, rfl, rfl, rfl, f12, f13, f14, f15, f16, rfl, rfl, f19, T, lv, Hl, K⟩ | ⟨trayOf5, opOf7, aOf9, kind11, notedClosed13, many15, many16, f0, f1, f2, f3, f4, f5, f6, rfl, rfl, rfl, rfl, rfl, f12, f13, f14, f15, f16, rfl, rfl, f19, f20⟩ | ⟨trayOf5, opOf7, aOf9, kind11, notedClosed13, many15, many16, g1, rfl, f0, f1, f2, f3, f4, f5, f6, rfl, rfl, rfl, rfl, rfl, f12, f13, f14, f15, f16, rfl, rfl, f19, T, lv, Hl, K⟩ | ⟨trayOf5, opOf7, aOf9, kind11, notedClosed13, f0, f1, f2, f3, f4, rfl, rfl, rfl, rfl, rfl, f10, f11, f12, f13, T, lv, Hl, K⟩ | ⟨trayOf5, opOf7, aOf9, kind11, notedClosed13, f0, f1, f2, f3, f4, rfl, rfl, rfl, rfl, rfl, f10, f11, f12, T, lv, Hl, K⟩ | ⟨trayOf5, opOf7, aOf9, kind11, notedClosed13, n15, many17, n18, many19, g1, rfl, f0, f1, f2, f3, f4, f5, f6, f7, f8, rfl, rfl, rfl, rfl, rfl, f14, f15, rfl, rfl, rfl, rfl, f20⟩ | ⟨trayOf5, opOf7, aOf9, kind11, notedClosed13, n15, many17, n18, many19, g1, g2, rfl, rfl, f0, f1, f2, f3, f4, f5, f6, f7, f8, rfl, rfl, rfl, rfl, rfl, f14, f15, rfl, rfl, rfl, rfl, T, lv, Hl, K⟩ | ⟨trayOf5, opOf7, aOf9, kind11, noted13, n14, n16, n17, n18, noted19, g1, g2, rfl, rfl, f0, f1, f2, f3, f4, f5, f6, f7, f8, f9, rfl, rfl, rfl, rfl, rfl, rfl, rfl, rfl, rfl, T, lv, Hl, K⟩ | ⟨trayOf5, opOf7, aOf9, kind11, f0, f1, f2, f3, rfl, rfl, rfl, rfl, T, lv, Hl, K⟩
  all_goals first | (exfalso; omega) | skip
  -- once, threw
  · have F := (Fq.refl (Ks := [72]) (fs := []) h).put 72 (32 * rd 36 x h + rd 38 x h) 0 rfl
    exact ⟨_, lv, Hl, fun d r hd e => K d r (by omega) e, T, mkO (F.wide rfl rfl) (M.fr F rfl) (by rw [F.f 42 rfl]; omega) (by rw [F.f 42 rfl]; omega) (by omega) (Up.wr (by omega) (by omega) (by omega)) ((Up.same fun i _ => F.k 63 i rfl).eq (by rw [if_neg (by omega)]))⟩
  -- once, puts
  · have F := (Fq.refl (Ks := [72]) (fs := []) h).put 72 (32 * rd 36 x h + rd 38 x h) 0 rfl
    obtain ⟨h', u1, u2, u3, u4, u5, u6, u7⟩ := c_puts T.1 (t := rd 36 x h) (key := rd 38 x h) (v := 1000 * (x / 8 + 1) + x % 8) b_t (ha (by omega)) (by omega) (M.fr F rfl) (by rw [F.f 42 rfl]; exact hs)
    rw [F.f 42 rfl] at u5 u6
    refine ⟨h', lv, Hl, fun d r hd e => ?_, T.trans u2, mkO ((F.wide rfl rfl).trans (u3.wide rfl rfl)) u4 u5 u6 (by omega) (fun i hi => ?_) (fun i hi => ?_)⟩
    · obtain ⟨d, rfl⟩ : ∃ d', d = d' + 1 := ⟨d - 1, by omega⟩
      exact K d _ _ _ (by omega) (u1 d (by omega)) e
    · rw [u3.k 72 i rfl]
      exact rd_wr hi (by omega) (by omega) (by omega)
    · rw [u7 i hi, F.k 63 i rfl, if_pos (show rd 58 c h = 0 by omega)]
  -- map, puts the sum
  · obtain ⟨h', u1, u2, u3, u4, u5, u6, u7⟩ := c_puts T.1 (t := rd 36 x h) (key := rd 38 x h) (v := n16) b_t (ha (by omega)) (by omega) M hs
    have fi : ∀ {w : Int} {lw : List (Option Value)}, Nx h' (wr 56 c w h') → (LVs [some (rv 31), some (iv c), some (iv x), some (iv (rd 36 x h)), some (iv (rd 37 x h)), some (iv (rd 38 x h)), none] lw) → (∀ d r, 3 ≤ d → Ev d 169 (452, lw, [], wr 56 c w h', fl_tot) r → Ev d 169 (120, lv, [], h', fl_tot) r) → ∃ h1 ls', LVs [some (rv 31), some (iv c), some (iv x), some (iv (rd 36 x h)), some (iv (rd 37 x h)), some (iv (rd 38 x h)), none] ls' ∧ (∀ d r, 6 ≤ d → Ev d 169 (452, ls', [], h1, fl_tot) r → Ev d 169 (0, fl_enter 7 [rv 31, iv c, iv x], [], h, fl_tot) r) ∧ Nx h h1 ∧ WpP h c x h1 := by
      intro w lw T2 L2 K2
      have F2 := (Fq.refl (Ks := [56]) (fs := []) h').put 56 c w rfl
      refine ⟨_, lw, L2, fun d r hd e => ?_, u2.trans T2, mkM ((u3.wide rfl rfl).trans (F2.wide rfl rfl)) (u4.fr F2 rfl) (by rw [F2.f 42 rfl]; exact u5) (by rw [F2.f 42 rfl]; exact u6) (fun i hi ho => by rw [F2.k 63 i rfl, u7 i hi, if_neg (by have := ha (by omega); omega)]) (by omega) (by omega)⟩
      obtain ⟨d, rfl⟩ : ∃ d', d = d' + 1 := ⟨d - 1, by omega⟩
      exact K d _ _ _ (by omega) (u1 d (by omega)) (K2 (d + 1) _ (by omega) e)
    rcases s169m u2.1 b_c b_x b_t b_op b_a Hl with ⟨noted8, bOf10, n11, g1, rfl, f0, f1, f2, f3, f4, rfl, rfl, T, lv, Hl, K⟩ | ⟨noted8, g1, rfl, f0, f1, f2, rfl, T, lv, Hl, K⟩
    · exact fi T Hl K
    · exact fi T Hl K
  -- map, puts b
  · obtain ⟨h', u1, u2, u3, u4, u5, u6, u7⟩ := c_puts T.1 (t := rd 36 x h) (key := rd 38 x h) (v := rd 39 x h) b_t (ha (by omega)) (rd_int _ _ _) M hs
    have fi : ∀ {w : Int} {lw : List (Option Value)}, Nx h' (wr 56 c w h') → (LVs [some (rv 31), some (iv c), some (iv x), some (iv (rd 36 x h)), some (iv (rd 37 x h)), some (iv (rd 38 x h)), none] lw) → (∀ d r, 3 ≤ d → Ev d 169 (452, lw, [], wr 56 c w h', fl_tot) r → Ev d 169 (120, lv, [], h', fl_tot) r) → ∃ h1 ls', LVs [some (rv 31), some (iv c), some (iv x), some (iv (rd 36 x h)), some (iv (rd 37 x h)), some (iv (rd 38 x h)), none] ls' ∧ (∀ d r, 6 ≤ d → Ev d 169 (452, ls', [], h1, fl_tot) r → Ev d 169 (0, fl_enter 7 [rv 31, iv c, iv x], [], h, fl_tot) r) ∧ Nx h h1 ∧ WpP h c x h1 := by
      intro w lw T2 L2 K2
      have F2 := (Fq.refl (Ks := [56]) (fs := []) h').put 56 c w rfl
      refine ⟨_, lw, L2, fun d r hd e => ?_, u2.trans T2, mkM ((u3.wide rfl rfl).trans (F2.wide rfl rfl)) (u4.fr F2 rfl) (by rw [F2.f 42 rfl]; exact u5) (by rw [F2.f 42 rfl]; exact u6) (fun i hi ho => by rw [F2.k 63 i rfl, u7 i hi, if_neg (by have := ha (by omega); omega)]) (by omega) (by omega)⟩
      obtain ⟨d, rfl⟩ : ∃ d', d = d' + 1 := ⟨d - 1, by omega⟩
      exact K d _ _ _ (by omega) (u1 d (by omega)) (K2 (d + 1) _ (by omega) e)
    rcases s169m u2.1 b_c b_x b_t b_op b_a Hl with ⟨noted8, bOf10, n11, g1, rfl, f0, f1, f2, f3, f4, rfl, rfl, T, lv, Hl, K⟩ | ⟨noted8, g1, rfl, f0, f1, f2, rfl, T, lv, Hl, K⟩
    · exact fi T Hl K
    · exact fi T Hl K
  -- map, removes
  · have F := (Fq.refl (Ks := [63]) (fs := []) h).put 63 (32 * rd 36 x h + rd 38 x h) 0 rfl
    have e63 : ∀ i, 0 ≤ i → rd 63 i (wr 63 (32 * rd 36 x h + rd 38 x h) 0 h) = if i = 32 * rd 36 x h + rd 38 x h then 0 else rd 63 i h := fun i hi => rd_wr hi (by omega) (by omega) (by omega)
    refine ⟨_, lv, Hl, fun d r hd e => K d r (by omega) e, T, mkM (F.wide rfl rfl) (MP.sub F rfl M fun t k q1 q2 q3 q4 q5 q6 => ?_) (by rw [F.f 42 rfl]; omega) (by rw [F.f 42 rfl]; omega) (fun i hi ho => by rw [e63 i hi, if_neg (by omega)]) (by omega) (by omega)⟩
    rw [e63 _ (by omega)] at q6
    split at q6
    · omega
    · exact q6
  -- queue, nothing noted
  · exact ⟨_, lv, Hl, fun d r hd e => K d r (by omega) e, T, mkA (Fq.refl h) (u69 (Fq.refl h) (by unfold manyV; rw [if_neg (by omega), if_neg (by omega)])) (u70 (Fq.refl h) (cV1 (by omega))) (by omega)⟩
  -- queue, takes the first
  · obtain ⟨h', u1, u2, u3, u4⟩ := c_takeFirst hT b_t
    have K1 := K
    obtain ⟨T, lv, Hl, K⟩ := s169q u2.1 b_c b_x b_t b_op b_a Hl
    refine ⟨h', lv, Hl, fun d r hd e => ?_, u2, mkA (u3.wide rfl rfl) (u4.eq (Eq.symm (by unfold manyV; rw [if_neg (by omega), if_pos (by omega)]))) (u70 (u3.wide rfl rfl) (cV1 (by omega))) (by omega)⟩
    obtain ⟨d, rfl⟩ : ∃ d', d = d' + 1 := ⟨d - 1, by omega⟩
    exact K1 d _ _ _ (by omega) (u1 d (by omega)) (K (d + 1) _ (by omega) e)
  -- queue, puts
  · obtain ⟨p1, p2⟩ := putl (w := 48 * rd 36 x h + rd 69 (rd 36 x h) h) (by omega) (by unfold manyV; rw [if_pos (by omega)]) (by omega)
    exact ⟨_, lv, Hl, fun d r hd e => K d r (by omega) e, T, mkA (p1.wide rfl rfl) p2 (u70 (p1.wide rfl rfl) (cV1 (by omega))) (by omega)⟩
  -- deque, closed
  · exact ⟨_, lv, Hl, fun d r hd e => K d r (by omega) e, T, mkA (Fq.refl h) (u69 (Fq.refl h) (by unfold manyV; rw [if_neg (by omega), if_neg (by omega)])) (u70 (Fq.refl h) (by unfold closV; rw [if_neg (by omega)])) (by omega)⟩
  -- deque, closes
  · have F := (Fq.refl (Ks := [70]) (fs := []) h).put 70 (rd 36 x h) 1 rfl
    exact ⟨_, lv, Hl, fun d r hd e => K d r (by omega) e, T, mkA (F.wide rfl rfl) (u69 (F.wide rfl rfl) (by unfold manyV; rw [if_neg (by omega), if_neg (by omega)])) ((Up.wr (by omega) (by omega) (by omega)).eq (by unfold closV; rw [if_pos (by omega)])) (by omega)⟩
  -- deque, op 3
  · have F := (Fq.refl (Ks := [69]) (fs := []) h).put 69 (rd 36 x h) (rd 69 (rd 36 x h) h) rfl
    exact ⟨_, lv, Hl, fun d r hd e => K d r (by omega) e, T, mkA (F.wide rfl rfl) ((Up.wr (by omega) (by omega) (by omega)).eq (by unfold manyV; rw [if_neg (by omega), if_pos (by omega), if_neg (by omega)])) (u70 (F.wide rfl rfl) (by unfold closV; rw [if_neg (by omega)])) (by omega)⟩
  · have F := (Fq.refl (Ks := [69]) (fs := []) h).put 69 (rd 36 x h) (rd 69 (rd 36 x h) h + -1) rfl
    exact ⟨_, lv, Hl, fun d r hd e => K d r (by omega) e, T, mkA (F.wide rfl rfl) ((Up.wr (by omega) (by omega) (by omega)).eq (by unfold manyV; rw [if_neg (by omega), if_pos (by omega), if_pos (by omega)]; omega)) (u70 (F.wide rfl rfl) (by unfold closV; rw [if_neg (by omega)])) (by omega)⟩
  -- deque, takes the first
  · obtain ⟨h', u1, u2, u3, u4⟩ := c_takeFirst hT b_t
    have K1 := K
    obtain ⟨T, lv, Hl, K⟩ := s169d u2.1 b_c b_x b_t b_op b_a Hl
    refine ⟨h', lv, Hl, fun d r hd e => ?_, u2, mkA (u3.wide rfl rfl) (u4.eq (Eq.symm (by unfold manyV; rw [if_neg (by omega), if_pos (by omega)]))) (u70 (u3.wide rfl rfl) (by unfold closV; rw [if_neg (by omega)])) (by omega)⟩
    obtain ⟨d, rfl⟩ : ∃ d', d = d' + 1 := ⟨d - 1, by omega⟩
    exact K1 d _ _ _ (by omega) (u1 d (by omega)) (K (d + 1) _ (by omega) e)
  -- deque, puts first
  · obtain ⟨h', u1, u2, u3, u4⟩ := c_putFirst hT b_t b_a (hm (by omega))
    have K1 := K
    obtain ⟨T, lv, Hl, K⟩ := s169f u2.1 b_c b_x b_t b_op b_a Hl
    refine ⟨h', lv, Hl, fun d r hd e => ?_, u2, mkA (u3.wide rfl rfl) (u4.eq (by unfold manyV; rw [if_pos (by omega)])) (u70 (u3.wide rfl rfl) (by unfold closV; rw [if_neg (by omega)])) (by omega)⟩
    obtain ⟨d, rfl⟩ : ∃ d', d = d' + 1 := ⟨d - 1, by omega⟩
    exact K1 d _ _ _ (by omega) (u1 d (by omega)) (K (d + 1) _ (by omega) e)
  -- deque, puts last
  · obtain ⟨p1, p2⟩ := putl (w := 48 * rd 36 x h + rd 69 (rd 36 x h) h) (by omega) (by unfold manyV; rw [if_pos (by omega)]) (by omega)
    exact ⟨_, lv, Hl, fun d r hd e => K d r (by omega) e, T, mkA (p1.wide rfl rfl) p2 (u70 (p1.wide rfl rfl) (by unfold closV; rw [if_neg (by omega)])) (by omega)⟩
  -- counter
  · have F (v w : Int) := ((Fq.refl (Ks := [56, 71]) (fs := []) h).put 56 c v rfl).put 71 (4 * rd 36 x h + c % 4) w rfl
    exact ⟨_, lv, Hl, fun d r hd e => K d r (by omega) e, T, mkA ((F _ _).wide rfl rfl) (u69 ((F _ _).wide rfl rfl) (mV0 (by omega)).1) (u70 ((F _ _).wide rfl rfl) (mV0 (by omega)).2) (by omega)⟩
  -- copies
  · obtain ⟨h', ls', u1, u2, u3, u4, u5⟩ := c_write_c b_c b_x b_t b_op b_a 33 0 lv h hT (by omega) (by omega) Hl
    refine ⟨h', ls', u1, fun d r hd e => K d r (by omega) (u2 d r (by omega) e), u3, mkM (u4.wide rfl rfl) (MP.sub u4 rfl M fun t k q1 q2 q3 q4 q5 q6 => ?_) (by rw [u4.f 42 rfl]; omega) (by rw [u4.f 42 rfl]; omega) u5 (by omega) (by omega)⟩
    rw [u5 (32 * t + k) (by omega) (by
      have : t ≠ rd 36 x h := fun z => by rw [z] at q3; omega
      omega)] at q6
    exact q6
theorem c_write {h : Hp} (hT : TInv h) {c x : Int} (b_c : 0 ≤ c ∧ c ≤ 4) (b_x : 0 ≤ x ∧ x ≤ 39) (M : MP h) (hs : 0 ≤ rd 31 42 h ∧ rd 31 42 h ≤ 99999) (ha : rd 32 (rd 36 x h) h = 0 ∨ rd 32 (rd 36 x h) h = 5 → 0 ≤ rd 38 x h ∧ rd 38 x h ≤ 31) (hm : rd 32 (rd 36 x h) h = 1 ∧ rd 37 x h = 0 ∨ rd 32 (rd 36 x h) h = 2 ∧ rd 37 x h < 2 → rd 69 (rd 36 x h) h ≤ 39) (hw : ∀ i, 0 ≤ i → i < rd 31 4 h → rd 53 i h = 1 → rd 51 i h ≤ 7) :
    ∃ h1 h', (∀ d, 6 ≤ d → Ev d 169 (0, fl_enter 7 [rv 31, iv c, iv x], [], h, fl_tot) (none, h', fl_tot)) ∧ Nx h h' ∧ WpP h c x h1 ∧ Fq [53] [] h1 h' ∧ ∀ i, 0 ≤ i → rd 53 i h' = if i < rd 31 4 h ∧ rd 53 i h = 1 ∧ rd 36 (8 * i + rd 51 i h) h = rd 36 x h then 0 else rd 53 i h := by
  obtain ⟨h1, ls1, u1, u2, u3, u4⟩ := c_write_p hT b_c b_x M hs ha hm
  have b_t := rda_ok hT 36 40 0 5 rfl (i := x) (by omega) (by omega)
  have b_op := rda_ok hT 37 40 0 4 rfl (i := x) (by omega) (by omega)
  have F := u4.1
  obtain ⟨T, lv, Hl, K⟩ := s169w0 u3.1 b_c b_x b_t b_op (rd_int 38 x h) u1
  obtain ⟨h', v1, v2, v3, v4⟩ := c_write_w b_c b_x b_t b_op (rd_int 38 x h) 6 0 lv h1 u3.1 (by omega) (by omega) (fun i q1 q2 q3 => by
    rw [F.f 4 rfl] at q2
    rw [F.k 53 i rfl] at q3
    rw [F.k 51 i rfl]
    exact hw i q1 q2 q3) Hl
  refine ⟨h1, h', fun d hd => u2 d _ hd (K d _ (by omega) (v1 d (by omega))), u3.trans v2, u4, v3, fun i hi => ?_⟩
  rw [v4 i hi, F.f 4 rfl, F.k 53 i rfl, F.k 51 i rfl, F.k 36 _ rfl]
  by_cases e : i < rd 31 4 h ∧ rd 53 i h = 1 ∧ rd 36 (8 * i + rd 51 i h) h = rd 36 x h
  · rw [if_pos ⟨hi, e⟩, if_pos e]
  · rw [if_neg (fun z => e z.2), if_neg e]
