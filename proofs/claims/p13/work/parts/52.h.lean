
set_option maxRecDepth 20000
theorem stS_fr {Ks : List Nat} {fs : List Int} {h h' : Hp} (x : Fq Ks fs h h') (hc : ([32, 34, 36, 37, 38].all (fun K => !Ks.contains K)) = true) (y c i : Int) : stS h' y c i = stS h y c i := by
  simp only [List.all_cons, List.all_nil, Bool.and_eq_true, Bool.and_true] at hc
  obtain ⟨c1, c2, c3, c4, c5⟩ := hc
  unfold stS
  rw [x.k 36 y (by simpa using c3), x.k 32 _ (by simpa using c1), x.k 37 y (by simpa using c4), x.k 38 y (by simpa using c5), x.k 34 _ (by simpa using c2)]
theorem stF_1 {k op a f c i : Int} (hc : 0 ≤ c ∧ c ≤ 4) (hi : 0 ≤ i) (hop : k = 1 → 0 ≤ op ∧ op ≤ 1) (ha : k = 0 → 0 ≤ a ∧ a ≤ 31) (h : stF k op a f c i = 1) : k ≠ 2 ∧ k ≠ 5 := by
  by_cases h2 : k = 2
  · exfalso
    revert h
    unfold stF
    repeat' split
    all_goals omega
  · by_cases h5 : k = 5
    · exfalso
      revert h
      unfold stF
      repeat' split
      all_goals omega
    · exact ⟨h2, h5⟩
theorem stF_4 {k op a f c i : Int} (hc : 0 ≤ c ∧ c ≤ 4) (hi : 0 ≤ i) (hop : k = 1 → 0 ≤ op ∧ op ≤ 1) (ha : k = 0 → 0 ≤ a ∧ a ≤ 31) (h : stF k op a f c i = 4 ∨ stF k op a f c i = 5) : k = 5 := by
  by_cases h5 : k = 5
  · exact h5
  · exfalso
    revert h
    unfold stF
    repeat' split
    all_goals omega
abbrev stKs : List Nat := [48, 52, 53, 54, 55, 56, 57, 58, 59, 60, 61, 62, 63, 64, 65, 66, 67, 68, 69, 70, 71, 72, 73, 74, 75, 76, 77, 78, 79, 80]
theorem StP.fr {h h' : Hp} {c x st : Int} (s : StP h c x st h') : Fq stKs [42] h h' := by
  rcases s with ⟨-, s⟩ | ⟨-, -, s⟩ | ⟨-, s⟩ | ⟨-, s⟩ | ⟨-, h1, s, s2, -⟩ | ⟨-, s, -⟩ | ⟨-, -, -, -, -, s⟩
  · exact s.1.wide rfl rfl
  · exact s.1.wide rfl rfl
  · exact s.1.wide rfl rfl
  · exact s.1.wide rfl rfl
  · exact (s.1.wide rfl rfl).trans (s2.wide rfl rfl)
  · exact s.wide rfl rfl
  · exact s.1.wide rfl rfl
theorem StP.pos {h h' : Hp} {c x st : Int} (hc : 0 ≤ c) (s : StP h c x st h') : rd 52 c h' = rd 52 c h ∨ rd 52 c h' = -1 ∨ rd 52 c h' = 2 := by
  rcases s with ⟨-, s⟩ | ⟨-, -, s⟩ | ⟨-, s⟩ | ⟨-, s⟩ | ⟨-, h1, s, s2, -⟩ | ⟨-, s, -⟩ | ⟨-, -, -, -, -, s⟩
  · exact Or.inl (s.1.k 52 c rfl)
  · exact Or.inl (s.1.k 52 c rfl)
  · exact Or.inl (s.1.k 52 c rfl)
  · obtain ⟨-, -, -, s⟩ := s
    rcases s with s | s | s
    · exact Or.inr (Or.inl (by rw [s.2.2.2.1 c hc, if_pos rfl]))
    · exact Or.inr (Or.inr (by rw [s.2.2.2.1 c hc, if_pos rfl]))
    · exact Or.inl (s.2.2.2.1 c hc)
  · exact Or.inl ((s2.k 52 c rfl).trans (s.1.k 52 c rfl))
  · exact Or.inl (s.k 52 c rfl)
  · exact Or.inl (s.1.k 52 c rfl)
theorem c_fin {h : Hp} (hT : TInv h) {ls : List (Option Value)} {c x st : Int} (b_c : 0 ≤ c ∧ c ≤ 4) (b_x : 0 ≤ x ∧ x ≤ 39) (b_st : 0 ≤ st ∧ st ≤ 203) (ha : rd 32 (rd 36 x h) h = 0 → 0 ≤ rd 38 x h ∧ rd 38 x h ≤ 31) (hop : rd 32 (rd 36 x h) h = 1 → 0 ≤ rd 37 x h ∧ rd 37 x h ≤ 1) (hp : -1 ≤ rd 52 c h ∧ rd 52 c h ≤ 18) (hm : rd 31 16 h ≤ 79) (hn : rd 51 c h ≤ 7) (hl : LVs [some (rv 31), some (iv c), some (iv x), some (iv st), none, none] ls) :
    ∃ h' ls', LVs [some (rv 31), some (iv c), some (iv x), some (iv st), none, none] ls' ∧ (∀ d r, 5 ≤ d → Ev d 158 (312, ls', [], h', fl_tot) r → Ev d 158 (256, ls, [], h, fl_tot) r) ∧ Nx h h' ∧ FnP h c x st h' := by
  have F := (Fq.refl (Ks := [52]) (fs := []) h).put 52 c (rd 52 c h + 1) rfl
  have U : Up 52 c (rd 52 c h + 1) h (wr 52 c (rd 52 c h + 1) h) := Up.wr (by omega) (by omega) (by omega)
  have e52 : rd 52 c (wr 52 c (rd 52 c h + 1) h) = rd 52 c h + 1 := rd_eq (by omega) (by omega)
  have fe : ∀ {lv : List (Option Value)}, Nx h (wr 52 c (rd 52 c h + 1) h) → LVs [some (rv 31), some (iv c), some (iv x), some (iv st), none, none] lv → ((rd 59 c h ≠ 0 ∧ 200 ≤ st) ∨ (rd 53 c h = 0 ∧ stS h x c (rd 52 c h + 1) = 0)) → (∀ d vv hh rr, 4 ≤ d → Ev d 177 (0, fl_enter 7 [rv 31, iv c, iv x], [], wr 52 c (rd 52 c h + 1) h, fl_tot) (vv, hh, fl_tot) → Ev (d + 1) 158 (312, lv, vv.toList ++ [], hh, fl_tot) rr → Ev (d + 1) 158 (256, ls, [], h, fl_tot) rr) → ∃ h' ls', LVs [some (rv 31), some (iv c), some (iv x), some (iv st), none, none] ls' ∧ (∀ d r, 5 ≤ d → Ev d 158 (312, ls', [], h', fl_tot) r → Ev d 158 (256, ls, [], h, fl_tot) r) ∧ Nx h h' ∧ FnP h c x st h' := by
    intro lv T Hl hc K
    obtain ⟨h', u1, u2, u3⟩ := c_ends T.1 b_c b_x (by rw [F.f 16 rfl]; exact hm) (by rw [F.k 51 c rfl]; exact hn)
    refine ⟨h', lv, Hl, fun d r hd e => ?_, T.trans u2, _, F, U, Or.inl ⟨hc, u3⟩⟩
    obtain ⟨d, rfl⟩ : ∃ d', d = d' + 1 := ⟨d - 1, by omega⟩
    exact K d _ _ _ (by omega) (u1 d (by omega)) e
  have fs : ∀ {lv : List (Option Value)}, Nx h (wr 52 c (rd 52 c h + 1) h) → LVs [some (rv 31), some (iv c), some (iv x), some (iv st), none, none] lv → ¬ (rd 59 c h ≠ 0 ∧ 200 ≤ st) → rd 53 c h = 0 → (∀ d vv hh rr, 2 ≤ d → Ev d 157 (0, fl_enter 9 [rv 31, iv x, iv c, iv (rd 52 c (wr 52 c (rd 52 c h + 1) h))], [], wr 52 c (rd 52 c h + 1) h, fl_tot) (vv, hh, fl_tot) → Ev (d + 1) 158 (303, lv, vv.toList ++ [], hh, fl_tot) rr → Ev (d + 1) 158 (256, ls, [], h, fl_tot) rr) → ∃ h' ls', LVs [some (rv 31), some (iv c), some (iv x), some (iv st), none, none] ls' ∧ (∀ d r, 5 ≤ d → Ev d 158 (312, ls', [], h', fl_tot) r → Ev d 158 (256, ls, [], h, fl_tot) r) ∧ Nx h h' ∧ FnP h c x st h' := by
    intro lv T Hl hns hw K
    have S := c_stepOf T.1 (x := x) (c := c) (i := rd 52 c h + 1) b_x b_c (by omega) (by rw [F.k 36 x rfl, F.k 32 _ rfl, F.k 38 x rfl]; exact ha)
    rw [stS_fr F rfl] at S
    rw [e52] at K
    have rg := stF_range (k := rd 32 (rd 36 x h) h) (op := rd 37 x h) (a := rd 38 x h) (f := rd 34 (rd 36 x h) h) (c := c) (i := rd 52 c h + 1) ha hop b_c (by omega)
    have K1 := K
    have T0 := T
    rcases s158e T.1 b_c b_x b_st (s2 := stS h x c (rd 52 c h + 1)) (by unfold stS; omega) Hl with ⟨f0, f1, T, lv, Hl, K⟩ | ⟨f0, f1, T, lv, Hl, K⟩
    · refine ⟨_, lv, Hl, fun d r hd e => ?_, T0, _, F, U, Or.inr ⟨by omega, rfl⟩⟩
      obtain ⟨d, rfl⟩ : ∃ d', d = d' + 1 := ⟨d - 1, by omega⟩
      exact K1 d _ _ _ (by omega) (S d (by omega)) (K (d + 1) _ (by omega) e)
    · refine fe T0 Hl (Or.inr ⟨hw, by omega⟩) fun d vv hh rr hd e1 e2 => ?_
      exact K1 d _ _ _ (by omega) (S d (by omega)) (K d _ _ _ (by omega) e1 e2)
  rcases s158d hT b_c b_x b_st hl with ⟨pos6, f0, rfl, f2⟩ | ⟨pos6, isShort8, isWaiting10, g1, rfl, f0, f1, f2, rfl, rfl, f5, rfl, f7, T, lv, Hl, K⟩ | ⟨pos6, isShort8, isWaiting10, pos11, g1, rfl, f0, f1, f2, f3, rfl, rfl, f6, rfl, f8, rfl, T, lv, Hl, K⟩ | ⟨pos6, isShort8, g1, rfl, f0, f1, f2, rfl, rfl, f5, f6, T, lv, Hl, K⟩ | ⟨pos6, isShort8, isWaiting10, g1, rfl, f0, f1, f2, f3, rfl, rfl, f6, f7, rfl, f9, T, lv, Hl, K⟩ | ⟨pos6, isShort8, isWaiting10, pos11, g1, rfl, f0, f1, f2, f3, f4, rfl, rfl, f7, f8, rfl, f10, rfl, T, lv, Hl, K⟩
  all_goals first | (exfalso; omega) | skip
  · exact ⟨_, lv, Hl, fun d r hd e => K d r (by omega) e, T, _, F, U, Or.inr ⟨by omega, rfl⟩⟩
  · exact fs T Hl (by omega) (by omega) K
  · exact fe T Hl (Or.inl ⟨by omega, by omega⟩) fun d vv hh rr hd e1 e2 => K d vv hh rr (by omega) e1 e2
  · exact ⟨_, lv, Hl, fun d r hd e => K d r (by omega) e, T, _, F, U, Or.inr ⟨by omega, rfl⟩⟩
  · exact fs T Hl (by omega) (by omega) K
def TickP (h h' : Hp) : Prop := Fq [] [15] h h' ∧ rd 31 15 h' = rd 31 15 h + 1
/-- a clerk's step, by its parts -/
def DoesP (h : Hp) (c : Int) (h' : Hp) : Prop := ∃ h1, BgP h c h1 ∧ ((rd 53 c h1 ≠ 0 ∧ ∃ h2, OvP h1 c (8 * c + rd 51 c h) h2 ∧ TickP h2 h') ∨ (rd 53 c h1 = 0 ∧ ∃ h2 h3, StP h1 c (8 * c + rd 51 c h) (stS h1 (8 * c + rd 51 c h) c (rd 52 c h1)) h2 ∧ FnP h2 c (8 * c + rd 51 c h) (stS h1 (8 * c + rd 51 c h) c (rd 52 c h1)) h3 ∧ TickP h3 h'))
/-- what a step wants of an act -/
def actOK (h : Hp) (x : Int) : Prop := (rd 32 (rd 36 x h) h = 1 → rd 37 x h ≤ 1) ∧ (rd 32 (rd 36 x h) h = 0 ∨ rd 32 (rd 36 x h) h = 5 ∨ (rd 32 (rd 36 x h) h = 4 ∧ rd 37 x h ≠ 3) → 0 ≤ rd 38 x h ∧ rd 38 x h ≤ 31)
theorem c_does {h : Hp} (hT : TInv h) {c : Int} (b_c : 0 ≤ c ∧ c ≤ 4) (hn : rd 51 c h ≤ 7) (hm : rd 31 16 h ≤ 79) (hm2 : rd 49 (8 * c + rd 51 c h) h = -1 → rd 31 16 h ≤ 78) (hst : rd 31 15 h ≤ 599) (M : MP h) (hs : 0 ≤ rd 31 42 h ∧ rd 31 42 h ≤ 90000) (hA : actOK h (8 * c + rd 51 c h)) (hp : rd 53 c h = 0 → (0 ≤ rd 52 c h ∧ rd 52 c h ≤ 18) ∧ stS h (8 * c + rd 51 c h) c (rd 52 c h) ≠ 0) (hw : ∀ i, 0 ≤ i → i < rd 31 4 h → rd 53 i h = 1 → rd 51 i h ≤ 7)
    (hmy : stS h (8 * c + rd 51 c h) c (rd 52 c h) = 2 → rd 53 c h = 0 → rd 32 (rd 36 (8 * c + rd 51 c h) h) h = 1 ∧ rd 37 (8 * c + rd 51 c h) h = 0 ∨ rd 32 (rd 36 (8 * c + rd 51 c h) h) h = 2 ∧ rd 37 (8 * c + rd 51 c h) h < 2 → rd 69 (rd 36 (8 * c + rd 51 c h) h) h ≤ 39) :
    ∃ h', (∀ d, 8 ≤ d → Ev d 158 (0, fl_enter 6 [rv 31, iv c], [], h, fl_tot) (none, h', fl_tot)) ∧ Nx h h' ∧ DoesP h c h' := by
  have b_n := rda_ok hT 51 5 0 8 rfl (i := c) (by omega) (by omega)
  obtain ⟨h1, l1, a1, a2, a3, a4⟩ := c_begin hT b_c hn (fun z => by have := hm2 z; omega)
  have F1 : Fq [43, 44, 45, 47, 49] [16] h h1 := by
    rcases a4 with ⟨-, e⟩ | ⟨-, e, -⟩
    · rw [e]; exact Fq.refl h
    · exact e
  have hm1 : rd 31 16 h1 ≤ 79 := by
    rcases a4 with ⟨-, e⟩ | ⟨e0, -, -, e, -⟩
    · rw [e]; exact hm
    · have := hm2 e0; omega
  have b_x : 0 ≤ 8 * c + rd 51 c h ∧ 8 * c + rd 51 c h ≤ 39 := by omega
  have b_p := rda_ok hT 52 5 (-1) 20 rfl (i := c) (by omega) (by omega)
  have b_w := rda_ok hT 53 5 0 1 rfl (i := c) (by omega) (by omega)
  generalize hx : 8 * c + rd 51 c h = x at *
  have e1 : rd 32 (rd 36 x h1) h1 = rd 32 (rd 36 x h) h := by rw [F1.k 36 x rfl, F1.k 32 _ rfl]
  have e2 : rd 37 x h1 = rd 37 x h := F1.k 37 x rfl
  have e3 : rd 38 x h1 = rd 38 x h := F1.k 38 x rfl
  have e4 : rd 53 c h1 = rd 53 c h := F1.k 53 c rfl
  have e5 : rd 52 c h1 = rd 52 c h := F1.k 52 c rfl
  have b_op := rda_ok hT 37 40 0 4 rfl (i := x) (by omega) (by omega)
  unfold actOK at hA
  have tick : ∀ {g : Hp} {v : Int}, v = rd 31 15 g → rd 31 15 g ≤ 599 → TInv g → TickP g (wr 31 15 (v + 1) g) := fun {g} {v} e l t => by
    have : 0 ≤ rd 31 15 g ∧ rd 31 15 g ≤ 600 := rdt_ok t 31 15
    refine ⟨(Fq.refl _).putf 15 _ rfl, ?_⟩
    rw [e]
    exact rd_eq (by omega) (by omega)
  have K0 := a2
  rcases s158b a3.1 b_c b_x a1 with ⟨isWaiting5, pos7, f0, f1, rfl, f3, rfl, T, lv, Hl, K⟩ | ⟨isWaiting5, f0, rfl, f2, T, lv, Hl, K⟩
  · have K1 := K
    have hw0 : rd 53 c h = 0 := by omega
    obtain ⟨p1, p2⟩ := hp hw0
    have S := c_stepOf a3.1 (x := x) (c := c) (i := rd 52 c h1) b_x b_c (by omega) (by rw [e1, e3]; exact fun z => hA.2 (Or.inl z))
    have es : stS h1 x c (rd 52 c h1) = stS h x c (rd 52 c h) := by rw [e5]; exact stS_fr F1 rfl x c _
    have rg := stF_range (k := rd 32 (rd 36 x h) h) (op := rd 37 x h) (a := rd 38 x h) (f := rd 34 (rd 36 x h) h) (c := c) (i := rd 52 c h) (fun z => hA.2 (Or.inl z)) (fun z => ⟨b_op.1, hA.1 z⟩) b_c p1.1
    have r1 := stF_1 (k := rd 32 (rd 36 x h) h) (op := rd 37 x h) (a := rd 38 x h) (f := rd 34 (rd 36 x h) h) (c := c) (i := rd 52 c h) b_c p1.1 (fun z => ⟨b_op.1, hA.1 z⟩) (fun z => hA.2 (Or.inl z))
    have r4 := stF_4 (k := rd 32 (rd 36 x h) h) (op := rd 37 x h) (a := rd 38 x h) (f := rd 34 (rd 36 x h) h) (c := c) (i := rd 52 c h) b_c p1.1 (fun z => ⟨b_op.1, hA.1 z⟩) (fun z => hA.2 (Or.inl z))
    have es2 : stF (rd 32 (rd 36 x h) h) (rd 37 x h) (rd 38 x h) (rd 34 (rd 36 x h) h) c (rd 52 c h) = stS h x c (rd 52 c h) := rfl
    rw [es2] at rg r1 r4
    have hsv : ∀ st, st = stS h1 x c (rd 52 c h1) → True := fun _ _ => trivial
    obtain ⟨h2, l2, q1, q2, q3, q4⟩ := c_step a3.1 (x := x) (c := c) (st := stS h1 x c (rd 52 c h1)) b_c b_x (M.fr F1 rfl) (by rw [F1.f 42 rfl]; exact hs) (by rw [es]; omega) (by rw [es, e1]; exact r1) (by rw [es, e1]; exact r4) (by rw [e1, e2, e3]; exact hA.2) (by rw [es, e1, e2, F1.k 36 x rfl, F1.k 69 _ rfl]; exact fun z => hmy z hw0) (fun i w1 w2 w3 => by
      rw [F1.f 4 rfl] at w2
      rw [F1.k 53 i rfl] at w3
      rw [F1.k 51 i rfl]
      exact hw i w1 w2 w3) Hl
    have F2 := q4.fr
    have P2 := q4.pos b_c.1
    obtain ⟨h3, l3, y1, y2, y3, y4⟩ := c_fin q3.1 (x := x) (c := c) (st := stS h1 x c (rd 52 c h1)) b_c b_x (by rw [es]; omega) (by rw [F2.k 36 x rfl, F2.k 32 _ rfl, F2.k 38 x rfl, e1, e3]; exact fun z => hA.2 (Or.inl z)) (by rw [F2.k 36 x rfl, F2.k 32 _ rfl, F2.k 37 x rfl, e1, e2]; exact fun z => ⟨b_op.1, hA.1 z⟩) (by omega) (by rw [F2.f 16 rfl]; exact hm1) (by rw [F2.k 51 c rfl, F1.k 51 c rfl]; exact hn) q1
    have h15 : rd 31 15 h3 ≤ 599 := by
      obtain ⟨g, g1, -, g3⟩ := y4
      have : rd 31 15 h3 = rd 31 15 g := by
        rcases g3 with ⟨-, o⟩ | ⟨-, e⟩
        · exact o.1.f 15 rfl
        · rw [e]
      rw [this, g1.f 15 rfl, F2.f 15 rfl, F1.f 15 rfl]
      exact hst
    rcases s158f y3.1 b_c b_x (st := stS h1 x c (rd 52 c h1)) (by rw [es]; omega) y1 with ⟨steps5, f0, rfl, f2⟩ | ⟨steps5, g1, rfl, f0, rfl, T, K⟩
    all_goals first | (exfalso; omega) | skip
    refine ⟨_, fun d hd => ?_, a3.trans (q3.trans (y3.trans T)), h1, a4, Or.inr ⟨by omega, h2, h3, by rw [hx]; exact q4, by rw [hx]; exact y4, tick rfl h15 y3.1⟩⟩
    obtain ⟨d, rfl⟩ : ∃ d', d = d' + 1 := ⟨d - 1, by omega⟩
    exact K0 (d + 1) _ (by omega) (K1 d _ _ _ (by omega) (S d (by omega)) (q2 (d + 1) _ (by omega) (y2 (d + 1) _ (by omega) (K (d + 1) (by omega)))))
  · have K1 := K
    obtain ⟨h2, u1, u2, u3⟩ := c_over a3.1 (x := x) (c := c) (how := 4) (v := 0) b_c b_x (by omega) (by omega) hm1 (by rw [F1.k 51 c rfl]; exact hn)
    have h15 : rd 31 15 h2 ≤ 599 := by
      rw [u3.1.f 15 rfl, F1.f 15 rfl]
      exact hst
    rcases s158o u2.1 b_c b_x Hl with ⟨steps4, f0, rfl, f2⟩ | ⟨steps4, g1, rfl, f0, rfl, T, K⟩
    all_goals first | (exfalso; omega) | skip
    refine ⟨_, fun d hd => ?_, a3.trans (u2.trans T), h1, a4, Or.inl ⟨by omega, h2, by rw [hx]; exact u3, tick rfl h15 u2.1⟩⟩
    obtain ⟨d, rfl⟩ : ∃ d', d = d' + 1 := ⟨d - 1, by omega⟩
    exact K0 (d + 1) _ (by omega) (K1 d _ _ _ (by omega) (u1 d (by omega)) (K (d + 1) (by omega)))
