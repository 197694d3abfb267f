
set_option maxRecDepth 20000
/-! A RUN -/
abbrev runKs : List Nat := [43, 44, 45, 46, 47, 48, 49, 50, 51, 52, 53, 54, 55, 56, 57, 58, 59, 60, 61, 62, 63, 64, 65, 66, 67, 68, 69, 70, 71, 72, 73, 74, 75, 76, 77, 78, 79, 80]
theorem DoesP.fr {h h' : Hp} {c : Int} (D : DoesP h c h') : Fq runKs [15, 16, 42] h h' := by
  obtain ⟨h1, B, D⟩ := D
  have F1 : Fq runKs [15, 16, 42] h h1 := by
    rcases B with ⟨-, e⟩ | ⟨-, e, -⟩
    · rw [e]; exact Fq.refl h
    · exact e.wide rfl rfl
  rcases D with ⟨-, h2, O, T⟩ | ⟨-, h2, h3, S, N, T⟩
  · exact F1.trans ((O.1.wide rfl rfl).trans (T.1.wide rfl rfl))
  · obtain ⟨g, G, -, N⟩ := N
    have F2 : Fq runKs [15, 16, 42] g h3 := by
      rcases N with ⟨-, O⟩ | ⟨-, e⟩
      · exact O.1.wide rfl rfl
      · rw [e]; exact Fq.refl g
    exact F1.trans ((S.fr.wide rfl rfl).trans ((G.wide rfl rfl).trans (F2.trans (T.1.wide rfl rfl))))
theorem ableV_now {h : Hp} {c : Int} (a : ableV h c = 1) : rd 51 c h ≠ rd 35 c h := fun z => by
  unfold ableV at a
  rw [if_pos z] at a
  omega
theorem c_does2 {h : Hp} (hT : TInv h) (I : RI h) {c : Int} (h0 : 0 ≤ c) (h1 : c < rd 31 4 h) (a : ableV h c = 1) (hst : rd 31 15 h ≤ 599) :
    ∃ h', (∀ d, 8 ≤ d → Ev d 158 (0, fl_enter 6 [rv 31, iv c], [], h, fl_tot) (none, h', fl_tot)) ∧ Nx h h' ∧ DoesP h c h' ∧ RI h' ∧ rd 31 15 h' = rd 31 15 h + 1 := by
  have bd := BD.of hT
  have hc4 : c ≤ 4 := by have := bd.1; omega
  have C := I.2.1 c h0 h1
  have hn : rd 51 c h < rd 35 c h := by
    have := ableV_now a
    have := C.1
    omega
  have p := I.pre hT h0 h1 hn
  have q := C.2.1 hn
  obtain ⟨h', e1, e2, e3⟩ := c_does hT (c := c) ⟨h0, hc4⟩ p.1 p.2.1 p.2.2.1 hst I.2.2.2.2.1 ⟨I.2.2.2.2.2.1, by have := I.2.2.2.2.2.2; omega⟩ p.2.2.2.1 (fun _ => ⟨⟨q.1, by omega⟩, q.2.2.2⟩) p.2.2.2.2.1 p.2.2.2.2.2
  obtain ⟨r1, r2⟩ := RI.does hT I h0 h1 hn hst e3
  exact ⟨h', e1, e2, e3, r1, r2⟩
def runOut (h : Hp) (m pc : Nat) (ls : List (Option Value)) : Prop := ∃ v h', (∀ d, 9 ≤ d → Ev d m (pc, ls, [], h, fl_tot) (some (iv v), h', fl_tot)) ∧ Nx h h' ∧ RI h' ∧ Fq runKs [13, 14, 15, 16, 42] h h' ∧ rd 31 13 h' = 1
theorem c_run_e {h : Hp} (hT : TInv h) (I : RI h) {ls lv : List (Option Value)} {c : Int} (Hl : LVs [some (rv 31), some (iv c), none] lv) (K : ∀ d vv hh rr, 2 ≤ d → Ev d 178 (0, fl_enter 2 [rv 31], [], h, fl_tot) (vv, hh, fl_tot) → Ev (d + 1) 153 (77, lv, vv.toList ++ [rv 31], hh, fl_tot) rr → Ev (d + 1) 153 (9, ls, [], h, fl_tot) rr) : runOut h 153 9 ls := by
  obtain ⟨v, v1, v2⟩ := c_how hT (fun c q1 q2 => I.ab hT q1 q2)
  have K1 := K
  obtain ⟨ended4, g1, g2, rfl, rfl, f0, rfl, T, K⟩ := s153f hT (v := v) v1 (Hl.fg 1 rfl)
  have F := ((Fq.refl (Ks := runKs) (fs := [13, 14, 15, 16, 42]) h).putf 14 v rfl).putf 13 1 rfl
  have F2 := ((Fq.refl (Ks := []) (fs := [13, 14]) h).putf 14 v rfl).putf 13 1 rfl
  obtain ⟨V, C, R, Y, M, s1, s2⟩ := I
  refine ⟨rd 31 14 (wr 31 14 v h), wr 31 13 1 (wr 31 14 v h), fun d hd => ?_, T, ⟨V.fr F2 rfl, fun c q1 q2 => ?_, R.fr F2 rfl, fun t q1 q2 => ?_, M.fr F2 rfl, by rw [F2.f 42 rfl]; exact s1, by rw [F2.f 42 rfl, F2.f 15 rfl]; exact s2⟩, F, rd_eq (by decide) (by decide)⟩
  · obtain ⟨d, rfl⟩ : ∃ d', d = d' + 1 := ⟨d - 1, by omega⟩
    exact K1 d _ _ _ (by omega) (v2 d (by omega)) (K (d + 1) (by omega))
  · rw [F2.f 4 rfl] at q2
    exact (C c q1 q2).fr F2 rfl
  · rw [F2.k 69 t rfl]
    have e51 : ∀ i, rd 51 i (wr 31 13 1 (wr 31 14 v h)) = rd 51 i h := fun i => F2.k 51 i rfl
    have ew : ∀ i, wOf (wr 31 13 1 (wr 31 14 v h)) i = wOf h i := fun i => wOf_fr F2 rfl (F2.k 52 i rfl)
    simp only [e51, ew]
    exact Y t q1 q2
theorem c_run_l : ∀ (n : Nat) (c : Int) (ls : List (Option Value)) (h : Hp), TInv h → RI h → 600 - rd 31 15 h < n → (c = -1 ∨ (0 ≤ c ∧ c < rd 31 4 h ∧ ableV h c = 1)) → LVs [some (rv 31), some (iv c), none] ls → runOut h 153 9 ls := by
  intro n
  induction n with
  | zero =>
    intro c ls h hT I h1
    have : 0 ≤ rd 31 15 h ∧ rd 31 15 h ≤ 600 := rdt_ok hT 31 15
    omega
  | succ n ih =>
    intro c ls h hT I h1 hc hl
    have b4 : 0 ≤ rd 31 4 h ∧ rd 31 4 h ≤ 5 := rdt_ok hT 31 4
    have bs : 0 ≤ rd 31 15 h ∧ rd 31 15 h ≤ 600 := rdt_ok hT 31 15
    have go : ∀ {w c0 : Int} {lv : List (Option Value)}, (0 ≤ c0 ∧ c0 ≤ 4) → rd 31 15 h < 600 → (0 ≤ w ∧ w < rd 31 4 h ∧ ableV h w = 1) → LVs [some (rv 31), some (iv c0), none] lv → (∀ d vv hh rr, 4 ≤ d → Ev d 158 (0, fl_enter 6 [rv 31, iv w], [], h, fl_tot) (vv, hh, fl_tot) → Ev (d + 1) 153 (64, lv, vv.toList ++ [], hh, fl_tot) rr → Ev (d + 1) 153 (9, ls, [], h, fl_tot) rr) → runOut h 153 9 ls := by
      intro w c0 lv b_c0 hs hw Hl K0
      obtain ⟨h2, d1, d2, d3, d4, d5⟩ := c_does2 hT I hw.1 hw.2.1 hw.2.2 (by omega)
      obtain ⟨v, v1, v2⟩ := c_least d2.1 (fun c q1 q2 => d4.ab d2.1 q1 q2)
      have b42 : 0 ≤ rd 31 4 h2 ∧ rd 31 4 h2 ≤ 5 := rdt_ok d2.1 31 4
      obtain ⟨T, lv, Hl, K⟩ := s153d d2.1 b_c0 Hl
      have K1 := K
      obtain ⟨T, lv, Hl, K⟩ := s153e d2.1 b_c0 (v := v) (by omega) Hl
      obtain ⟨z, h', r1, r2, r3, r4, r5⟩ := ih v lv h2 d2.1 d4 (by omega) v1 Hl
      refine ⟨z, h', fun d hd => ?_, d2.trans r2, r3, (d3.fr.wide rfl rfl).trans r4, r5⟩
      obtain ⟨d, rfl⟩ : ∃ d', d = d' + 1 := ⟨d - 1, by omega⟩
      exact K0 d _ _ _ (by omega) (d1 d (by omega)) (K1 d _ _ _ (by omega) (v2 d (by omega)) (K (d + 1) _ (by omega) (r1 (d + 1) hd)))
    rcases s153l hT (c := c) (by omega) hl with ⟨f0, f1, T, lv, Hl, K⟩ | ⟨steps3, f0, f1, f2, rfl, f4, T, lv, Hl, K⟩ | ⟨steps3, baton5, f0, f1, f2, f3, rfl, f5, f6, rfl, f8, T, lv, Hl, K⟩ | ⟨steps3, baton5, clerks6, f0, f1, f2, f3, f4, rfl, f6, f7, rfl, f9, rfl, f11, T, lv, Hl, K⟩ | ⟨steps3, baton5, clerks6, f0, f1, f2, f3, f4, rfl, f6, f7, rfl, f9, rfl, f11, T, lv, Hl, K⟩
    all_goals first | (exfalso; omega) | skip
    · exact c_run_e hT I Hl K
    · exact c_run_e hT I Hl K
    · exact go (by omega) (by omega) (by omega) (Hl.fg 2 rfl) (fun d vv hh rr hd e1 e2 => K d vv hh rr (by omega) e1 e2)
    · exact go (by omega) (by omega) (by omega) (Hl.fg 2 rfl) (fun d vv hh rr hd e1 e2 => K d vv hh rr (by omega) e1 e2)
    · have hnm : 0 ≤ rd 41 (rd 31 15 h) h := by
        have := rda_ok hT 41 600 (-1) 4 rfl (i := rd 31 15 h) (by omega) (by omega)
        omega
      have a := c_isAble hT (c := rd 41 (rd 31 15 h) h) (by omega) (I.ab hT hnm (by omega))
      have ab := ableV_bd h (rd 41 (rd 31 15 h) h)
      have K1 := K
      rcases s153c hT (c := c) (by omega) (nm := rd 41 (rd 31 15 h) h) (by omega) (b := ableV h (rd 41 (rd 31 15 h) h)) (by omega) Hl with ⟨f0, f1, T, lv, Hl, K⟩ | ⟨f0, f1, T, lv, Hl, K⟩
      · exact go (by omega) (by omega) (by omega) (Hl.fg 2 rfl) (fun d vv hh rr hd e1 e2 => K1 d _ _ _ (by omega) (a d hd) (K d vv hh rr (by omega) e1 e2))
      · exact go (by omega) (by omega) ⟨hnm, by omega, by omega⟩ (Hl.fg 2 rfl) (fun d vv hh rr hd e1 e2 => K1 d _ _ _ (by omega) (a d hd) (K d vv hh rr (by omega) e1 e2))
theorem c_run {h : Hp} (hT : TInv h) (V : SV h) : runOut h 153 0 (fl_enter 3 [rv 31]) := by
  obtain ⟨h1, e1, e2, e3⟩ := c_begins hT
  have I := RI.begins hT V e3
  obtain ⟨v, v1, v2⟩ := c_least e2.1 (fun c q1 q2 => I.ab e2.1 q1 q2)
  have b42 : 0 ≤ rd 31 4 h1 ∧ rd 31 4 h1 ≤ 5 := rdt_ok e2.1 31 4
  obtain ⟨T, lv, Hl, K⟩ := s153 hT (LVs.self (fl_enter 3 [rv 31]))
  have K0 := K
  obtain ⟨T, lv, Hl, K⟩ := s153a e2.1 Hl
  have K1 := K
  obtain ⟨T, lv, Hl, K⟩ := s153b e2.1 (v := v) (by omega) Hl
  obtain ⟨z, h', r1, r2, r3, r4, r5⟩ := c_run_l 601 v lv h1 e2.1 I (by rw [e3.2.1]; omega) v1 Hl
  refine ⟨z, h', fun d hd => ?_, e2.trans r2, r3, (e3.1.wide rfl rfl).trans r4, r5⟩
  obtain ⟨d, rfl⟩ : ∃ d', d = d' + 1 := ⟨d - 1, by omega⟩
  exact K0 d _ _ _ (by omega) (e1 d (by omega)) (K1 d _ _ _ (by omega) (v2 d (by omega)) (K (d + 1) _ (by omega) (r1 (d + 1) hd)))
