
set_option maxRecDepth 20000
/-! ALL CHOICES ARE GONE THROUGH -/
theorem iv_norm (z : Int) : ∃ z', (-2147483648 ≤ z' ∧ z' ≤ 2147483647) ∧ iv z = iv z' := ⟨(Int32.ofInt z).toInt, i_rng _, by unfold iv; rw [Int32.ofInt_toInt]⟩
abbrev exKs : List Nat := [43, 44, 45, 46, 47, 48, 49, 50, 51, 52, 53, 54, 55, 56, 57, 58, 59, 60, 61, 62, 63, 64, 65, 66, 67, 68, 69, 70, 71, 72, 73, 74, 75, 76, 77, 78, 79, 80, 81, 82, 83, 84, 85, 86, 87, 88, 89, 90, 91, 92]
abbrev exFs : List Int := [13, 14, 15, 16, 42, 56, 57, 60, 64, 68, 69]
def chF (h : Hp) (j : Int) : Int := rd 90 j h
def FI (b h : Hp) (fo : Int) : Prop := ∀ i : Nat, (i : Int) < fo → ∃ g, Rea b (chF h) i g ∧ rd 90 i h < cntA g 0
def AI (b h : Hp) (s : Int) : Prop := ∀ i : Nat, (i : Int) < s → ∃ g, Rea b (chF h) i g ∧ rd 90 i h < cntA g 0 ∧ rd 91 i h = cntA g 0
theorem Rea.ch {b h h' g : Hp} {s : Nat} (e : ∀ i : Int, 0 ≤ i → i < s → rd 90 i h' = rd 90 i h) (x : Rea b (chF h) s g) : Rea b (chF h') s g := x.congr (fun i q1 q2 => (e i q1 q2).symm)
theorem FI.mono {b h h' : Hp} {fo fo' : Int} (x : FI b h fo) (hf : fo' ≤ fo) (e : ∀ i : Int, 0 ≤ i → i < fo' → rd 90 i h' = rd 90 i h) : FI b h' fo' := fun i hi => by
  obtain ⟨g, g1, g2⟩ := x i (by omega)
  exact ⟨g, g1.ch (fun j q1 q2 => e j q1 (by omega)), by rw [e i (by omega) hi]; exact g2⟩
theorem AI.mono {b h h' : Hp} {s : Int} (x : AI b h s) (e : ∀ i : Int, 0 ≤ i → i < s → rd 90 i h' = rd 90 i h ∧ rd 91 i h' = rd 91 i h) : AI b h' s := fun i hi => by
  obtain ⟨g, g1, g2, g3⟩ := x i hi
  exact ⟨g, g1.ch (fun j q1 q2 => (e j q1 (by omega)).1), by rw [(e i (by omega) hi).1]; exact g2, by rw [(e i (by omega) hi).2]; exact g3⟩
theorem AI.fi {b h : Hp} {s : Int} (x : AI b h s) : FI b h s := fun i hi => by
  obtain ⟨g, g1, g2, -⟩ := x i hi
  exact ⟨g, g1, g2⟩
def InOut (b h : Hp) (most fo runs more : Int) (pc : Nat) (ls : List (Option Value)) (st : List Value) : Prop := ∃ h' ls', LVs [some (rv 31), some (iv most), some (iv fo), some (iv runs), some (iv more), none, none] ls' ∧ (∀ d r, 10 ≤ d → Ev d 206 (153, ls', [], h', fl_tot) r → Ev d 206 (pc, ls, st, h, fl_tot) r) ∧ Nx h h' ∧ RI h' ∧ Fq exKs exFs h h' ∧ AI b h' (rd 31 15 h')
theorem c_ex_in {b : Hp} {most fo runs more : Int} (b_most : 1 ≤ most ∧ most ≤ 60) (b_fo : 0 ≤ fo ∧ fo ≤ 600) (b_runs : 0 ≤ runs ∧ runs ≤ 59) (b_more : 0 ≤ more ∧ more ≤ 1) : ∀ (n : Nat) (s : Nat) (ls : List (Option Value)) (h : Hp), TInv h → RI h → 600 - (s : Int) < n → rd 31 15 h = s → Rea b (chF h) s h → AI b h s → FI b h fo → LVs [some (rv 31), some (iv most), some (iv fo), some (iv runs), some (iv more), some (iv (cntA h 0)), none] ls → InOut b h most fo runs more 75 ls [] := by
  intro n
  induction n with
  | zero =>
    intro s ls h hT I hm h2
    have : 0 ≤ rd 31 15 h ∧ rd 31 15 h ≤ 600 := rdt_ok hT 31 15
    omega
  | succ n ih =>
    intro s ls h hT I hm hs R A Fo hl
    have b15 : 0 ≤ rd 31 15 h ∧ rd 31 15 h ≤ 600 := rdt_ok hT 31 15
    have cb := cntA_bd h 0
    have go : ∀ {w : Int} {lv : List (Option Value)}, rd 31 15 h < 600 → (0 ≤ w ∧ w < cntA h 0) → (s < fo → w = rd 90 s h) → Nx h (wr 91 s (cntA h 0) (wr 90 s w h)) → LVs [some (rv 31), some (iv most), some (iv fo), some (iv runs), some (iv more), some (iv (cntA h 0)), some (iv s)] lv → (∀ d vv hh rr, 2 ≤ d → Ev d 208 (0, fl_enter 4 [rv 31, iv w], [], wr 91 s (cntA h 0) (wr 90 s w h), fl_tot) (vv, hh, fl_tot) → Ev (d + 1) 206 (141, lv, vv.toList ++ [rv 31], hh, fl_tot) rr → Ev (d + 1) 206 (75, ls, [], h, fl_tot) rr) → InOut b h most fo runs more 75 ls [] := by
      intro w lv h600 hw hwf T Hl K0
      have x1 := ((Fq.refl (Ks := otKs) (fs := otFs) h).put 90 s w rfl).put 91 s (cntA h 0) rfl
      have x2 := ((Fq.refl (Ks := exKs) (fs := exFs) h).put 90 s w rfl).put 91 s (cntA h 0) rfl
      have m90 : ∀ i : Int, 0 ≤ i → rd 90 i (wr 91 s (cntA h 0) (wr 90 s w h)) = if i = s then w else rd 90 i h := fun i hi => by
        simp (disch := omega) only [rdk, rd_wr]
      have m91 : ∀ i : Int, 0 ≤ i → rd 91 i (wr 91 s (cntA h 0) (wr 90 s w h)) = if i = s then cntA h 0 else rd 91 i h := fun i hi => by
        simp (disch := omega) only [rdk, rd_wr]
      have m15 : rd 31 15 (wr 91 s (cntA h 0) (wr 90 s w h)) = s := (x1.f 15 rfl).trans hs
      generalize wr 91 s (cntA h 0) (wr 90 s w h) = h1 at *
      have T0 := T
      have R1 : Rea b (chF h1) s h1 := (R.fr T.1 x1).ch (fun i q1 q2 => by rw [m90 i q1, if_neg (by omega)])
      have I1 := I.fr x1 rfl
      have R0 : Rea b (chF h1) s h := R.ch (fun i q1 q2 => by rw [m90 i q1, if_neg (by omega)])
      have ec : cntA h1 0 = cntA h 0 := Rea.cnt R0 R1
      have A1 : ∀ c, 0 ≤ c → c < rd 31 4 h1 → AbPre h1 c := fun c q1 q2 => I1.ab T.1 q1 q2
      obtain ⟨v, v1, v2⟩ := c_ableAt T.1 A1 (i := w) (by omega) (by omega)
      have b4 : 0 ≤ rd 31 4 h1 ∧ rd 31 4 h1 ≤ 5 := rdt_ok T.1 31 4
      obtain ⟨h2, d1, d2, d3, d4, d5⟩ := c_does2 T.1 I1 v1.1 v1.2.1 v1.2.2.1 (by omega)
      have A2 : ∀ c, 0 ≤ c → c < rd 31 4 h2 → AbPre h2 c := fun c q1 q2 => d4.ab d2.1 q1 q2
      have am := c_ableMany d2.1 A2
      have cb2 := cntA_bd h2 0
      have DF := d3.fr
      have vb : 0 ≤ v ∧ v ≤ 4 := ⟨v1.1, by have := v1.2.1; omega⟩
      have hlt : rd 51 v h1 < rd 35 v h1 := by
        have := ableV_now v1.2.2.1
        have := (I1.2.1 v v1.1 v1.2.1).1
        omega
      have k90 : ∀ i, rd 90 i h2 = rd 90 i h1 := fun i => DF.k 90 i rfl
      have k91 : ∀ i, rd 91 i h2 = rd 91 i h1 := fun i => DF.k 91 i rfl
      have R2 : Rea b (chF h2) (s + 1) h2 := by
        refine ⟨d2.1, d4, h1, v, h2, R1.ch (fun i _ _ => k90 i), ?_, hlt, d3, Fq.refl h2⟩
        show isNth h1 (rd 90 s h2) v
        rw [k90, m90 s (by omega), if_pos rfl]
        exact v1
      have AI2 : AI b h2 ((s + 1 : Nat) : Int) := fun i hi => by
        by_cases e : i = s
        · subst e
          refine ⟨h1, R1.ch (fun j _ _ => k90 j), ?_, ?_⟩
          · rw [k90, m90 i (by omega), if_pos rfl]; omega
          · rw [k91, m91 i (by omega), if_pos rfl]; omega
        · obtain ⟨g, g1, g2, g3⟩ := A i (by omega)
          refine ⟨g, g1.ch (fun j q1 q2 => by rw [k90, m90 j q1, if_neg (by omega)]), ?_, ?_⟩
          · rw [k90, m90 i (by omega), if_neg (by omega)]; exact g2
          · rw [k91, m91 i (by omega), if_neg (by omega)]; exact g3
      have FI2 : FI b h2 fo := Fo.mono (Int.le_refl _) (fun i q1 q2 => by
        rw [k90, m90 i q1]
        split
        · rename_i e
          rw [e]
          exact hwf (by omega)
        · rfl)
      obtain ⟨T, lv, Hl, K⟩ := s206f T.1 b_most b_fo b_runs b_more (n := cntA h 0) (by omega) (s := s) (by omega) (v := v) vb Hl
      have K1 := K
      obtain ⟨T, lv, Hl, K⟩ := s206g d2.1 b_most b_fo b_runs b_more (n := cntA h 0) (by omega) (s := s) (by omega) Hl
      have K2 := K
      obtain ⟨T, lv, Hl, K⟩ := s206h d2.1 b_most b_fo b_runs b_more (n := cntA h 0) (by omega) (s := s) (by omega) (n2 := cntA h2 0) (by omega) Hl
      obtain ⟨h', ls', z1, z2, z3, z4, z5, z6⟩ := ih (s + 1) lv h2 d2.1 d4 (by omega) (by omega) R2 AI2 FI2 (Hl.fg 6 rfl)
      refine ⟨h', ls', z1, fun d r hd e => ?_, T0.trans (d2.trans z3), z4, x2.trans ((DF.wide rfl rfl).trans z5), z6⟩
      obtain ⟨d, rfl⟩ : ∃ d', d = d' + 1 := ⟨d - 1, by omega⟩
      exact K0 d _ _ _ (by omega) (v2 d (by omega)) (K1 d _ _ _ (by omega) (d1 d (by omega)) (K2 d _ _ _ (by omega) (am d (by omega)) (K (d + 1) _ (by omega) (z2 (d + 1) _ (by omega) e))))
    rcases s206e hT b_most b_fo b_runs b_more (n := cntA h 0) cb hl with ⟨f0, f1, T, lv, Hl, K⟩ | ⟨steps7, f0, f1, f2, rfl, f4, T, lv, Hl, K⟩ | ⟨steps7, chosen10, g1, g2, rfl, rfl, f0, f1, f2, f3, f4, rfl, f6, f7, f8, rfl, T, lv, Hl, K⟩ | ⟨steps7, chosen9, chosen11, g1, g2, rfl, rfl, f0, f1, f2, f3, f4, f5, rfl, f7, f8, f9, rfl, rfl, T, lv, Hl, K⟩
    · exact ⟨h, lv, Hl.fg 5 rfl, fun d r hd e => K d r (by omega) e, T, I, Fq.refl h, by rw [hs]; exact A⟩
    · exact ⟨h, lv, Hl.fg 5 rfl, fun d r hd e => K d r (by omega) e, T, I, Fq.refl h, by rw [hs]; exact A⟩
    · rw [hs] at T Hl K
      exact go (w := 0) (by omega) (by omega) (fun z => by omega) T Hl (fun d vv hh rr hd e1 e2 => K d vv hh rr (by omega) e1 e2)
    · have b90 := rda_ok hT 90 600 0 4 rfl (i := s) (by omega) (by omega)
      have e : rd 90 s (wr 90 s (rd 90 s h) h) = rd 90 s h := rd_eq (by omega) (by omega)
      rw [hs] at T Hl K
      rw [e] at K
      obtain ⟨g, g1, g2⟩ := Fo s (by omega)
      have ec : cntA h 0 = cntA g 0 := Rea.cnt g1 R
      exact go (w := rd 90 s h) (by omega) (by omega) (fun _ => rfl) T Hl (fun d vv hh rr hd e1 e2 => K d vv hh rr (by omega) e1 e2)
theorem c_ex_la {h : Hp} (hT : TInv h) {most fo runs more : Int} (b_most : 1 ≤ most ∧ most ≤ 60) (b_fo : 0 ≤ fo ∧ fo ≤ 600) (b_runs : 0 ≤ runs ∧ runs ≤ 60) (b_more : 0 ≤ more ∧ more ≤ 1) : ∀ (n : Nat) (la : Int) (ls : List (Option Value)), la + 1 < n → (-1 ≤ la ∧ la ≤ 599) → LVs [some (rv 31), some (iv most), some (iv fo), some (iv runs), some (iv more), none, some (iv la)] ls →
    ∃ la' ls', (-1 ≤ la' ∧ la' ≤ la) ∧ (0 ≤ la' → rd 90 la' h + 1 < rd 91 la' h) ∧ LVs [some (rv 31), some (iv most), some (iv fo), some (iv runs), some (iv more), none, some (iv la')] ls' ∧ ∀ d r, 3 ≤ d → Ev d 206 (207, ls', [], h, fl_tot) r → Ev d 206 (177, ls, [], h, fl_tot) r := by
  intro n
  induction n with
  | zero => intro la ls h1 h2; omega
  | succ n ih =>
    intro la ls h1 b_la hl
    rcases s206l hT b_most b_fo b_runs b_more b_la hl with ⟨f0, f1, T, lv, Hl, K⟩ | ⟨chosen8, ables10, f0, f1, f2, f3, rfl, rfl, f6, T, lv, Hl, K⟩ | ⟨chosen8, ables10, f0, f1, f2, f3, rfl, rfl, f6, T, lv, Hl, K⟩
    · exact ⟨la, lv, by omega, fun z => by omega, Hl, K⟩
    · exact ⟨la, lv, by omega, fun z => by omega, Hl, K⟩
    · obtain ⟨la', ls', z1, z2, z3, z4⟩ := ih (la + -1) lv (by omega) (by omega) Hl
      exact ⟨la', ls', by omega, z2, z3, fun d r hd e => K d r hd (z4 d r hd e)⟩
theorem c_ex_on {b h : Hp} (hT : TInv h) (I : RI h) (A : AI b h (rd 31 15 h)) {most fo runs more : Int} (b_most : 1 ≤ most ∧ most ≤ 60) (b_fo : 0 ≤ fo ∧ fo ≤ 600) (b_runs : 0 ≤ runs ∧ runs ≤ 59) (b_more : 0 ≤ more ∧ more ≤ 1) {ls : List (Option Value)} (hl : LVs [some (rv 31), some (iv most), some (iv fo), some (iv runs), some (iv more), none, none] ls) :
    ∃ h' ls' fo' more', (0 ≤ fo' ∧ fo' ≤ 600) ∧ (0 ≤ more' ∧ more' ≤ 1) ∧ LVs [some (rv 31), some (iv most), some (iv fo'), some (iv (runs + 1)), some (iv more'), none, none] ls' ∧ (∀ d r, 10 ≤ d → Ev d 206 (55, ls', [], h', fl_tot) r → Ev d 206 (153, ls, [], h, fl_tot) r) ∧ Nx h h' ∧ RI h' ∧ Fq exKs exFs h h' ∧ (more' = 1 → FI b h' fo') := by
  have b15 : 0 ≤ rd 31 15 h ∧ rd 31 15 h ≤ 600 := rdt_ok hT 31 15
  obtain ⟨v, v1, v2⟩ := c_how hT (fun c q1 q2 => I.ab hT q1 q2)
  obtain ⟨T, lv, Hl, K⟩ := s206i hT b_most b_fo b_runs b_more hl
  have K0 := K
  obtain ⟨g1, rfl, T, lv, Hl, K⟩ := s206j hT b_most b_fo b_runs b_more (v := v) v1 Hl
  have K1 := K
  have T1 := T
  have x1 := (Fq.refl (Ks := otKs) (fs := otFs) h).putf 14 v rfl
  have I1 := I.fr x1 rfl
  obtain ⟨h2, u1, u2, u3⟩ := c_weighs T.1 I1 b_runs
  have x2 : Fq weKs (14 :: weFs) h h2 := ((Fq.refl (Ks := weKs) (fs := 14 :: weFs) h).putf 14 v rfl).trans (u3.wide rfl rfl)
  have I2 := I1.fr u3 rfl
  have m15 : rd 31 15 h2 = rd 31 15 h := x2.f 15 rfl
  obtain ⟨steps6, f0, rfl, T, lv, Hl, K⟩ := s206k u2.1 b_most b_fo b_runs b_more Hl
  have K2 := K
  have T2 : Nx h h2 := T1.trans u2
  have A2 : AI b h2 (rd 31 15 h) := A.mono (fun i q1 q2 => ⟨x2.k 90 i rfl, x2.k 91 i rfl⟩)
  obtain ⟨la, ls2, z1, z2, z3, z4⟩ := c_ex_la u2.1 b_most b_fo (runs := runs + 1) (by omega) b_more 601 (rd 31 15 h2 + -1) lv (by omega) (by omega) Hl
  have out : ∀ {lv3 : List (Option Value)} {h3 : Hp}, (∀ d r, 3 ≤ d → Ev d 206 (55, lv3, [], h3, fl_tot) r → Ev d 206 (207, ls2, [], h2, fl_tot) r) → ∀ d r, 10 ≤ d → Ev d 206 (55, lv3, [], h3, fl_tot) r → Ev d 206 (153, ls, [], h, fl_tot) r := fun K3 d r hd e => by
    obtain ⟨d, rfl⟩ : ∃ d', d = d' + 1 := ⟨d - 1, by omega⟩
    exact K0 d _ _ _ (by omega) (v2 d (by omega)) (K1 d _ _ _ (by omega) (u1 d (by omega)) (K2 (d + 1) _ (by omega) (z4 (d + 1) _ (by omega) (K3 (d + 1) _ (by omega) e))))
  have b91 : 0 ≤ la → rd 91 la h2 ≤ 5 := fun z => (rda_ok u2.1 91 600 0 5 rfl (i := la) z (by omega)).2
  rcases s206m u2.1 b_most b_fo (runs := runs + 1) (by omega) b_more (la := la) (by omega) z3 with ⟨f0, f1, f2, T, lv, Hl, K⟩ | ⟨chosen8, f0, f1, f2, f3, rfl, f5⟩ | ⟨chosen8, g1, rfl, f0, f1, f2, f3, rfl, T, lv, Hl, K⟩
  · exact ⟨h2, lv, fo, 0, b_fo, by omega, Hl.fg 6 rfl, out K, T2, I2, x2.wide rfl rfl, fun z => by omega⟩
  · exfalso
    have := z2 (by omega)
    have := b91 (by omega)
    omega
  · have hz := z2 (by omega)
    have b90 := rda_ok u2.1 90 600 0 4 rfl (i := la) (by omega) (by omega)
    have x3 := (Fq.refl (Ks := otKs) (fs := otFs) h2).put 90 la (rd 90 la h2 + 1) rfl
    have m90 : ∀ i : Int, 0 ≤ i → rd 90 i (wr 90 la (rd 90 la h2 + 1) h2) = if i = la then rd 90 la h2 + 1 else rd 90 i h2 := fun i hi => rd_wr hi (by omega) (by omega) (by omega)
    refine ⟨_, lv, la + 1, 1, by omega, by omega, Hl.fg 6 rfl, out K, T2.trans T, I2.fr x3 rfl, (x2.wide rfl rfl).trans ((Fq.refl (Ks := exKs) (fs := exFs) h2).put 90 la (rd 90 la h2 + 1) rfl), fun _ i hi => ?_⟩
    obtain ⟨g, g1, g2, g3⟩ := A2 i (by omega)
    refine ⟨g, g1.ch (fun j q1 q2 => by rw [m90 j q1, if_neg (by omega)]), ?_⟩
    rw [m90 i (by omega)]
    split
    · rename_i e
      rw [← e] at hz ⊢
      omega
    · exact g2
theorem c_ex_l {b : Hp} {most : Int} (b_most : 1 ≤ most ∧ most ≤ 60) : ∀ (n : Nat) (fo runs more : Int) (ls : List (Option Value)) (h : Hp), TInv h → SV h → Fq exKs exFs b h → 60 - runs < n → (0 ≤ fo ∧ fo ≤ 600) → (0 ≤ runs ∧ runs ≤ 60) → runs ≤ most → (0 ≤ more ∧ more ≤ 1) → (more = 1 → FI b h fo) → LVs [some (rv 31), some (iv most), some (iv fo), some (iv runs), some (iv more), none, none] ls →
    ∃ h' ls' fo' runs' more', (0 ≤ fo' ∧ fo' ≤ 600) ∧ (0 ≤ runs' ∧ runs' ≤ 60) ∧ runs' ≤ most ∧ (0 ≤ more' ∧ more' ≤ 1) ∧ LVs [some (rv 31), some (iv most), some (iv fo'), some (iv runs'), some (iv more'), none, none] ls' ∧ (∀ d r, 10 ≤ d → Ev d 206 (243, ls', [], h', fl_tot) r → Ev d 206 (55, ls, [], h, fl_tot) r) ∧ Nx h h' ∧ SV h' ∧ Fq exKs exFs h h' := by
  intro n
  induction n with
  | zero => intro fo runs more ls h hT V F h1 h2 h3; omega
  | succ n ih =>
    intro fo runs more ls h hT V F h1 b_fo b_runs hrm b_more Fo hl
    rcases s206b hT b_most b_fo b_runs b_more hl with ⟨f0, f1, T, lv, Hl, K⟩ | ⟨f0, f1, f2, f3, T, lv, Hl, K⟩ | ⟨f0, f1, f2, f3, T, lv, Hl, K⟩
    · exact ⟨h, lv, fo, runs, more, b_fo, b_runs, hrm, b_more, Hl, fun d r hd e => K d r (by omega) e, T, V, Fq.refl h⟩
    · exact ⟨h, lv, fo, runs, more, b_fo, b_runs, hrm, b_more, Hl, fun d r hd e => K d r (by omega) e, T, V, Fq.refl h⟩
    · obtain ⟨h1, u1, u2, u3⟩ := c_begins hT
      have K0 := K
      have I1 := RI.begins hT V u3
      have R1 : Rea b (chF h1) 0 h1 := ⟨u2.1, I1, h, h1, SEq.of F rfl, u3, u2.1, Fq.refl h1⟩
      have x1 : Fq exKs exFs h h1 := u3.1.wide rfl rfl
      have A1 : ∀ c, 0 ≤ c → c < rd 31 4 h1 → AbPre h1 c := fun c q1 q2 => I1.ab u2.1 q1 q2
      have am := c_ableMany u2.1 A1
      have cb := cntA_bd h1 0
      have Fo1 : FI b h1 fo := (Fo (by omega)).mono (Int.le_refl _) (fun i _ _ => u3.1.k 90 i rfl)
      obtain ⟨T, lv, Hl, K⟩ := s206c u2.1 b_most b_fo (runs := runs) (by omega) b_more Hl
      have K1 := K
      obtain ⟨T, lv, Hl, K⟩ := s206d u2.1 b_most b_fo (runs := runs) (by omega) b_more (n := cntA h1 0) (by omega) Hl
      have K2 := K
      obtain ⟨h2, l2, w1, w2, w3, w4, w5, w6⟩ := c_ex_in b_most b_fo (runs := runs) (by omega) b_more 601 0 lv h1 u2.1 I1 (by omega) (by rw [u3.2.1]; rfl) R1 (fun i hi => by omega) Fo1 Hl
      obtain ⟨h3, l3, fo3, more3, y1, y2, y3, y4, y5, y6, y7, y8⟩ := c_ex_on w3.1 w4 w6 b_most b_fo (runs := runs) (by omega) b_more w1
      obtain ⟨h', l', fo', runs', more', z1, z2, z3, z4, z5, z6, z7, z8, z9⟩ := ih fo3 (runs + 1) more3 l3 h3 y5.1 y6.1 (F.trans (x1.trans (w5.trans y7))) (by omega) y1 (by omega) (by omega) y2 y8 y3
      refine ⟨h', l', fo', runs', more', z1, z2, z3, z4, z5, fun d r hd e => ?_, u2.trans (w3.trans (y5.trans z7)), z8, x1.trans (w5.trans (y7.trans z9))⟩
      obtain ⟨d, rfl⟩ : ∃ d', d = d' + 1 := ⟨d - 1, by omega⟩
      exact K0 d _ _ _ (by omega) (u1 d (by omega)) (K1 d _ _ _ (by omega) (am d (by omega)) (K2 (d + 1) _ (by omega) (w2 (d + 1) _ hd (y4 (d + 1) _ hd (z6 (d + 1) _ hd e)))))
theorem c_ex_a {most : Int} (b_most : 1 ≤ most ∧ most ≤ 60) : ∀ (n : Nat) (k : Int) (ls : List (Option Value)) (h : Hp), TInv h → 5 - k < n → (0 ≤ k ∧ k ≤ 5) → LVs [some (rv 31), some (iv most), some (iv k), none, none, none, none] ls → ∃ h' ls', LVs [some (rv 31), some (iv most), some (iv 0), some (iv 0), some (iv 1), none, none] ls' ∧ (∀ d r, 3 ≤ d → Ev d 206 (55, ls', [], h', fl_tot) r → Ev d 206 (30, ls, [], h, fl_tot) r) ∧ Nx h h' ∧ Fq [81] [] h h' := by
  intro n
  induction n with
  | zero => intro k ls h hT h1 h2; omega
  | succ n ih =>
    intro k ls h hT h1 b_k hl
    rcases s206a hT b_most b_k hl with ⟨f0, f1, T, lv, Hl, K⟩ | ⟨g1, rfl, f0, f1, T, lv, Hl, K⟩
    · exact ⟨h, lv, Hl, K, T, Fq.refl h⟩
    · obtain ⟨h', ls', u1, u2, u3, u4⟩ := ih (k + 1) lv _ T.1 (by omega) (by omega) Hl
      exact ⟨h', ls', u1, fun d r hd e => K d r hd (u2 d r hd e), T.trans u3, ((Fq.refl (Ks := [81]) (fs := []) h).put 81 k 0 rfl).trans u4⟩
theorem c_explore {h : Hp} (hT : TInv h) (G : RG h) {most : Int} (b_most : -2147483648 ≤ most ∧ most ≤ 2147483647) : PubOut h 206 7 [rv 31, iv most] := by
  rcases s206 hT b_most (LVs.self (fl_enter 7 [rv 31, iv most])) with ⟨f0, f1, f2, T, K⟩ | ⟨f0, f1, f2, f3, T, K⟩ | ⟨gone3, n4, f0, f1, f2, f3, f4, f5, rfl, rfl, f8, T, lv, Hl, K⟩ | ⟨gone3, n4, f0, f1, f2, f3, f4, f5, rfl, rfl, f8, T, K⟩
  · exact pub K (by omega) T G
  · exact pub K (by omega) T G
  · have b_m : 1 ≤ most ∧ most ≤ 60 := by omega
    have K0 := K
    obtain ⟨h1, l1, u1, u2, u3, u4⟩ := c_ex_a b_m 6 0 lv h hT (by omega) (by omega) Hl
    obtain ⟨h2, l2, fo, runs, more, y1, y2, y3, y4, y5, y6, y7, y8, y9⟩ := c_ex_l (b := h1) b_m 61 0 0 1 l1 h1 u3.1 (G.1.fr u4 rfl) (Fq.refl h1) (by omega) (by omega) (by omega) (by omega) (by omega) (fun _ i hi => by omega) u1
    have e74 : rd 31 74 h2 = rd 31 74 h := (y9.f 74 rfl).trans (u4.f 74 rfl)
    have b74 : 0 ≤ rd 31 74 h2 ∧ rd 31 74 h2 ≤ 1000 := rdt_ok y7.1 31 74
    have fin : ∀ {v w : Int} {lv : List (Option Value)}, Nx h2 (wr 31 74 w (wr 81 0 v h2)) → LVs [some (rv 31), some (iv most), some (iv fo), some (iv runs), some (iv more), none, none] lv → (∀ d vv hh rr, 2 ≤ d → Ev d 153 (0, fl_enter 3 [rv 31], [], wr 31 74 w (wr 81 0 v h2), fl_tot) (vv, hh, fl_tot) → Ev (d + 1) 206 (273, lv, vv.toList ++ [], hh, fl_tot) rr → Ev (d + 1) 206 (243, l2, [], h2, fl_tot) rr) → PubOut h 206 7 [rv 31, iv most] := fun {v w lv} T Hl K1 => by
      have x := ((Fq.refl (Ks := [81]) (fs := [74]) h2).put 81 0 v rfl).putf 74 w rfl
      obtain ⟨z, h3, r1, r2, r3, r4, r5⟩ := c_run T.1 (y8.fr x rfl)
      obtain ⟨z', b_z, ez⟩ := iv_norm z
      rw [ez] at r1
      have T0 := T
      obtain ⟨T, K⟩ := s206o r2.1 b_m y1 y2 y4 (v := z') b_z Hl
      refine pub (D := 12) (v := some (iv runs)) (fun d hd => ?_) (by omega) (u3.trans (y7.trans (T0.trans r2))) ⟨r3.1, fun _ => r3⟩
      obtain ⟨d, rfl⟩ : ∃ d', d = d' + 1 := ⟨d - 1, by omega⟩
      exact K0 (d + 1) _ (by omega) (u2 (d + 1) _ (by omega) (y6 (d + 1) _ (by omega) (K1 d _ _ _ (by omega) (r1 d (by omega)) (K (d + 1) (by omega)))))
    rcases s206n y7.1 b_m y1 y2 y4 y5 with ⟨gone7, n8, g1, rfl, f0, f1, f2, f3, rfl, rfl, f6⟩ | ⟨gone7, n8, g1, g2, rfl, rfl, f0, f1, f2, f3, rfl, rfl, T, lv, Hl, K⟩ | ⟨gone7, n8, g1, rfl, f0, f1, f2, f3, rfl, rfl, f6⟩ | ⟨gone7, n8, g1, g2, rfl, rfl, f0, f1, f2, f3, rfl, rfl, T, lv, Hl, K⟩
    all_goals first | (exfalso; omega) | skip
    · exact fin T Hl (fun d vv hh rr hd e1 e2 => K d vv hh rr (by omega) e1 e2)
    · exact fin T Hl (fun d vv hh rr hd e1 e2 => K d vv hh rr (by omega) e1 e2)
  · exact pub K (by omega) T G
