
set_option maxRecDepth 20000
def ReadP (h : Hp) (c x : Int) (h' : Hp) : Prop := Fq [55, 56, 60, 61, 65, 66, 67, 74, 75, 76, 78] [42] h h' ∧ MP h' ∧ rd 31 42 h ≤ rd 31 42 h' ∧ rd 31 42 h' ≤ rd 31 42 h + 8 ∧ (∀ i, 0 ≤ i → i ≠ c → rd 55 i h' = rd 55 i h) ∧ (rd 32 (rd 36 x h) h = 1 → rd 55 c h' = if rd 37 x h = 1 ∧ 0 < rd 69 (rd 36 x h) h then 1 else 0)
def WriteP (h : Hp) (c x : Int) (h' : Hp) : Prop := ∃ h1, WpP h c x h1 ∧ Fq [53] [] h1 h' ∧ ∀ i, 0 ≤ i → rd 53 i h' = if i < rd 31 4 h ∧ rd 53 i h = 1 ∧ rd 36 (8 * i + rd 51 i h) h = rd 36 x h then 0 else rd 53 i h
def OwnP (h : Hp) (x st v : Int) (h' : Hp) : Prop := Fq [62] [] h h' ∧ Up 62 (4 * rd 36 x h + st % 100) (if rd 34 (rd 36 x h) h = 1 then rd 62 (4 * rd 36 x h + st % 100) h else v) h h'
def StP (h : Hp) (c x st : Int) (h' : Hp) : Prop :=
  (200 ≤ st ∧ OwnP h x st (-1) h') ∨ (100 ≤ st ∧ st < 200 ∧ OwnP h x st c h') ∨ (st = 1 ∧ ReadP h c x h') ∨ (st = 3 ∧ LookP h c x h') ∨ (st = 2 ∧ WriteP h c x h') ∨
  (st = 4 ∧ Fq [72] [] h h' ∧ Up 72 (32 * rd 36 x h + rd 38 x h) 1 h h') ∨ (st < 100 ∧ st ≠ 1 ∧ st ≠ 2 ∧ st ≠ 3 ∧ st ≠ 4 ∧ MkP h c x h')
theorem c_step {h : Hp} (hT : TInv h) {ls : List (Option Value)} {c x st : Int} (b_c : 0 ≤ c ∧ c ≤ 4) (b_x : 0 ≤ x ∧ x ≤ 39) (M : MP h) (hs : 0 ≤ rd 31 42 h ∧ rd 31 42 h ≤ 90000) (b_st : (1 ≤ st ∧ st ≤ 5) ∨ (100 ≤ st ∧ st ≤ 103) ∨ (200 ≤ st ∧ st ≤ 203))
    (hk1 : st = 1 → rd 32 (rd 36 x h) h ≠ 2 ∧ rd 32 (rd 36 x h) h ≠ 5) (hk4 : st = 4 ∨ st = 5 → rd 32 (rd 36 x h) h = 5) (ha : rd 32 (rd 36 x h) h = 0 ∨ rd 32 (rd 36 x h) h = 5 ∨ (rd 32 (rd 36 x h) h = 4 ∧ rd 37 x h ≠ 3) → 0 ≤ rd 38 x h ∧ rd 38 x h ≤ 31) (hm : st = 2 → rd 32 (rd 36 x h) h = 1 ∧ rd 37 x h = 0 ∨ rd 32 (rd 36 x h) h = 2 ∧ rd 37 x h < 2 → rd 69 (rd 36 x h) h ≤ 39) (hw : ∀ i, 0 ≤ i → i < rd 31 4 h → rd 53 i h = 1 → rd 51 i h ≤ 7)
    (hl : LVs [some (rv 31), some (iv c), some (iv x), none, none, none] ls) : ∃ h' ls', LVs [some (rv 31), some (iv c), some (iv x), some (iv st), none, none] ls' ∧ (∀ d r, 7 ≤ d → Ev d 158 (256, ls', [], h', fl_tot) r → Ev d 158 (75, ls, [iv st], h, fl_tot) r) ∧ Nx h h' ∧ StP h c x st h' := by
  have b_t := rda_ok hT 36 40 0 5 rfl (i := x) (by omega) (by omega)
  have core : ∀ {ba : Int} {l1 : List (Option Value)}, (ba = if rd 34 (rd 36 x h) h = 1 then 1 else 0) → LVs [some (rv 31), some (iv c), some (iv x), some (iv st), some (iv (4 * rd 36 x h + st % 100)), some (iv ba)] l1 → ∃ h' ls', LVs [some (rv 31), some (iv c), some (iv x), some (iv st), none, none] ls' ∧ (∀ d r, 7 ≤ d → Ev d 158 (256, ls', [], h', fl_tot) r → Ev d 158 (113, l1, [], h, fl_tot) r) ∧ Nx h h' ∧ StP h c x st h' := by
    intro ba l1 hb Hl0
    have b_ba : 0 ≤ ba ∧ ba ≤ 1 := by rw [hb]; split <;> omega
    have hown : ∀ v w : Int, w = (if rd 34 (rd 36 x h) h = 1 then rd 62 (4 * rd 36 x h + st % 100) h else v) → (-1 ≤ w ∧ w ≤ 4) → OwnP h x st v (wr 62 (4 * rd 36 x h + st % 100) w h) := fun v w e bw => by
      refine ⟨(Fq.refl h).put 62 _ _ rfl, ?_⟩
      rw [← e]
      exact Up.wr (by omega) (by omega) (by omega)
    rcases s158g hT b_c b_x (st := st) (by omega) (m := 4 * rd 36 x h + st % 100) (by omega) (ba := ba) b_ba Hl0 with ⟨f0, f1, f2, f3, f4, f5, f6, T, lv, Hl, K⟩ | ⟨trayOf9, n10, aOf12, f0, f1, f2, f3, f4, f5, f6, f7, f8, f9, rfl, rfl, rfl, f13⟩ | ⟨trayOf9, n10, aOf12, f0, f1, f2, f3, f4, f5, f6, f7, f8, f9, rfl, rfl, rfl, f13⟩ | ⟨trayOf9, n10, aOf12, n13, g1, rfl, f0, f1, f2, f3, f4, f5, f6, f7, f8, f9, f10, rfl, rfl, rfl, rfl, T, lv, Hl, K⟩ | ⟨f0, f1, f2, f3, f4, f5, T, lv, Hl, K⟩ | ⟨f0, f1, f2, f3, f4, T, lv, Hl, K⟩ | ⟨f0, f1, f2, f3, T, lv, Hl, K⟩ | ⟨f0, f1, f2, f3⟩ | ⟨g1, rfl, f0, f1, f2, f3, f4, f5, T, lv, Hl, K⟩ | ⟨owner8, g1, rfl, f0, f1, f2, f3, f4, f5, f6, rfl, T, lv, Hl, K⟩ | ⟨f0, f1, f2⟩ | ⟨g1, rfl, f0, f1, f2, f3, f4, T, lv, Hl, K⟩ | ⟨owner8, g1, rfl, f0, f1, f2, f3, f4, f5, rfl, T, lv, Hl, K⟩
    all_goals first | (exfalso; omega) | skip
    · obtain ⟨h', u1, u2, u3⟩ := c_makes hT b_c b_x (ha (by omega))
      refine ⟨h', lv, (Hl.fg 4 rfl).fg 5 rfl, fun d r hd e => ?_, u2, Or.inr (Or.inr (Or.inr (Or.inr (Or.inr (Or.inr ⟨by omega, by omega, by omega, by omega, by omega, u3⟩)))))⟩
      obtain ⟨d, rfl⟩ : ∃ d', d = d' + 1 := ⟨d - 1, by omega⟩
      exact K d _ _ _ (by omega) (u1 d (by omega)) e
    · exact ⟨_, lv, (Hl.fg 4 rfl).fg 5 rfl, fun d r hd e => K d r (by omega) e, T, Or.inr (Or.inr (Or.inr (Or.inr (Or.inr (Or.inl ⟨by omega, (Fq.refl h).put 72 _ _ rfl, Up.wr (by omega) (by omega) (by omega)⟩)))))⟩
    · obtain ⟨h1, h', u1, u2, u3, u4, u5⟩ := c_write hT b_c b_x M (by omega) (fun z => ha (by omega)) (hm (by omega)) hw
      have K1 := K
      obtain ⟨T, lv, Hl, K⟩ := s158_217 u2.1 b_c b_x (st := st) (by omega) ((Hl.fg 4 rfl).fg 5 rfl)
      refine ⟨h', lv, Hl, fun d r hd e => ?_, u2, Or.inr (Or.inr (Or.inr (Or.inr (Or.inl ⟨by omega, h1, u3, u4, u5⟩))))⟩
      obtain ⟨d, rfl⟩ : ∃ d', d = d' + 1 := ⟨d - 1, by omega⟩
      exact K1 d _ _ _ (by omega) (u1 d (by omega)) (K (d + 1) _ (by omega) e)
    · obtain ⟨h', u1, u2, u3⟩ := c_look hT b_c b_x (fun z => ha (by omega))
      have K1 := K
      obtain ⟨T, lv, Hl, K⟩ := s158_203 u2.1 b_c b_x (st := st) (by omega) ((Hl.fg 4 rfl).fg 5 rfl)
      refine ⟨h', lv, Hl, fun d r hd e => ?_, u2, Or.inr (Or.inr (Or.inr (Or.inl ⟨by omega, u3⟩)))⟩
      obtain ⟨d, rfl⟩ : ∃ d', d = d' + 1 := ⟨d - 1, by omega⟩
      exact K1 d _ _ _ (by omega) (u1 d (by omega)) (K (d + 1) _ (by omega) e)
    · obtain ⟨h', u1, u2, u3⟩ := c_read hT b_c b_x M hs (hk1 (by omega)) (fun z => ha (by omega)) (fun z z2 => ha (by omega))
      have K1 := K
      obtain ⟨T, lv, Hl, K⟩ := s158_189 u2.1 b_c b_x (st := st) (by omega) ((Hl.fg 4 rfl).fg 5 rfl)
      refine ⟨h', lv, Hl, fun d r hd e => ?_, u2, Or.inr (Or.inr (Or.inl ⟨by omega, u3⟩))⟩
      obtain ⟨d, rfl⟩ : ∃ d', d = d' + 1 := ⟨d - 1, by omega⟩
      exact K1 d _ _ _ (by omega) (u1 d (by omega)) (K (d + 1) _ (by omega) e)
    · have hf : rd 34 (rd 36 x h) h ≠ 1 := fun z => by rw [if_pos z] at hb; omega
      exact ⟨_, lv, (Hl.fg 4 rfl).fg 5 rfl, fun d r hd e => K d r (by omega) e, T, Or.inr (Or.inl ⟨by omega, by omega, hown c c (by rw [if_neg hf]) (by omega)⟩)⟩
    · have hf : rd 34 (rd 36 x h) h = 1 := Classical.byContradiction fun z => by rw [if_neg z] at hb; omega
      exact ⟨_, lv, (Hl.fg 4 rfl).fg 5 rfl, fun d r hd e => K d r (by omega) e, T, Or.inr (Or.inl ⟨by omega, by omega, hown c _ (by rw [if_pos hf]) (by omega)⟩)⟩
    · have hf : rd 34 (rd 36 x h) h ≠ 1 := fun z => by rw [if_pos z] at hb; omega
      exact ⟨_, lv, (Hl.fg 4 rfl).fg 5 rfl, fun d r hd e => K d r (by omega) e, T, Or.inl ⟨by omega, hown (-1) (-1) (by rw [if_neg hf]) (by omega)⟩⟩
    · have hf : rd 34 (rd 36 x h) h = 1 := Classical.byContradiction fun z => by rw [if_neg z] at hb; omega
      exact ⟨_, lv, (Hl.fg 4 rfl).fg 5 rfl, fun d r hd e => K d r (by omega) e, T, Or.inl ⟨by omega, hown (-1) _ (by rw [if_pos hf]) (by omega)⟩⟩
  rcases s158c hT b_c b_x (st := st) (by omega) hl with ⟨trayOf6, n7, n8, n9, trayOf11, fault12, f0, f1, f2, f3, f4, f5, rfl, rfl, rfl, rfl, rfl, rfl, f12, T, lv, Hl, K⟩ | ⟨trayOf6, n7, n8, n9, trayOf11, fault12, f0, f1, f2, f3, f4, f5, rfl, rfl, rfl, rfl, rfl, rfl, f12, T, lv, Hl, K⟩
  · obtain ⟨h', ls', u1, u2, u3, u4⟩ := core (ba := 0) (by rw [if_neg (by omega)]) Hl
    exact ⟨h', ls', u1, fun d r hd e => K d r (by omega) (u2 d r hd e), u3, u4⟩
  · obtain ⟨h', ls', u1, u2, u3, u4⟩ := core (ba := 1) (by rw [if_pos (by omega)]) Hl
    exact ⟨h', ls', u1, fun d r hd e => K d r (by omega) (u2 d r hd e), u3, u4⟩
def FnP (h : Hp) (c x st : Int) (h' : Hp) : Prop := ∃ h1, Fq [52] [] h h1 ∧ Up 52 c (rd 52 c h + 1) h h1 ∧ (((rd 59 c h ≠ 0 ∧ 200 ≤ st) ∨ (rd 53 c h = 0 ∧ stS h x c (rd 52 c h + 1) = 0)) ∧ OvP h1 c x h' ∨ ¬ ((rd 59 c h ≠ 0 ∧ 200 ≤ st) ∨ (rd 53 c h = 0 ∧ stS h x c (rd 52 c h + 1) = 0)) ∧ h' = h1)
theorem stF_range {k op a f c i : Int} (ha : k = 0 → 0 ≤ a ∧ a ≤ 31) (hop : k = 1 → 0 ≤ op ∧ op ≤ 1) (hc : 0 ≤ c ∧ c ≤ 4) (hi : 0 ≤ i) : stF k op a f c i = 0 ∨ (1 ≤ stF k op a f c i ∧ stF k op a f c i ≤ 5) ∨ (100 ≤ stF k op a f c i ∧ stF k op a f c i ≤ 103) ∨ (200 ≤ stF k op a f c i ∧ stF k op a f c i ≤ 203) := by
  unfold stF
  by_cases h0 : k = 0
  · have := ha h0
    repeat' split
    all_goals omega
  · by_cases h1 : k = 1
    · have := hop h1
      repeat' split
      all_goals omega
    · repeat' split
      all_goals omega
