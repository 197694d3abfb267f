
set_option maxRecDepth 20000
/-! A RUN'S BEGINNING -/
def Rg (K : Nat) (lo hi : Int) (f : Int → Int) (h h' : Hp) : Prop := ∀ j, 0 ≤ j → rd K j h' = if lo ≤ j ∧ j < hi then f j else rd K j h
theorem Rg.step {K : Nat} {i N : Int} {f : Int → Int} {h h1 h' : Hp} (u : Up K i (f i) h h1) (r : Rg K (i + 1) N f h1 h') (hi : 0 ≤ i ∧ i < N) : Rg K i N f h h' := fun j hj => by
  rw [r j hj, u j hj]
  by_cases e : j = i
  · subst e; rw [if_neg (by omega), if_pos rfl, if_pos (by omega)]
  · by_cases e2 : i + 1 ≤ j ∧ j < N
    · rw [if_pos e2, if_pos (by omega)]
    · rw [if_neg e2, if_neg e, if_neg (by omega)]
theorem Rg.nil {K : Nat} {i N : Int} {f : Int → Int} {h : Hp} (hi : N ≤ i) : Rg K i N f h h := fun j hj => by rw [if_neg (by omega)]
theorem c_bg_e : ∀ (n : Nat) (i : Int) (ls : List (Option Value)) (h : Hp), TInv h → 6 - i < n → (0 ≤ i ∧ i ≤ 6) → LVs [some (rv 31), some (iv i)] ls → ∃ h', (∀ d, 3 ≤ d → Ev d 154 (198, ls, [], h, fl_tot) (none, h', fl_tot)) ∧ Nx h h' ∧ Fq [69, 70, 77, 78, 79, 80] [] h h' ∧ Rg 69 i 6 (fun _ => 0) h h' ∧ Rg 70 i 6 (fun _ => 0) h h' := by
  intro n
  induction n with
  | zero => intro i ls h hT h1 h2; omega
  | succ n ih =>
    intro i ls h hT h1 b_i hl
    rcases s154e hT b_i hl with ⟨f0, f1, T, K⟩ | ⟨g1, g2, g3, g4, g5, g6, rfl, rfl, rfl, rfl, rfl, rfl, f0, f1, T, lv, Hl, K⟩
    · exact ⟨h, K, T, Fq.refl h, Rg.nil (by omega), Rg.nil (by omega)⟩
    · have F := ((((((Fq.refl (Ks := [69, 70, 77, 78, 79, 80]) (fs := []) h).put 69 i 0 rfl).put 70 i 0 rfl).put 77 i 0 rfl).put 78 i 0 rfl).put 79 i 0 rfl).put 80 i 0 rfl
      obtain ⟨h', u1, u2, u3, u4, u5⟩ := ih (i + 1) lv _ T.1 (by omega) (by omega) Hl
      exact ⟨h', fun d hd => K d _ hd (u1 d hd), T.trans u2, F.trans u3, Rg.step (fun j hj => by simp (disch := omega) only [rdk, rd_wr]) u4 (by omega), Rg.step (fun j hj => by simp (disch := omega) only [rdk, rd_wr]) u5 (by omega)⟩
theorem c_bg_d : ∀ (n : Nat) (i : Int) (ls : List (Option Value)) (h : Hp), TInv h → 192 - i < n → (0 ≤ i ∧ i ≤ 192) → LVs [some (rv 31), some (iv i)] ls → ∃ h' ls', LVs [some (rv 31), none] ls' ∧ (∀ d r, 3 ≤ d → Ev d 154 (198, ls', [], h', fl_tot) r → Ev d 154 (150, ls, [], h, fl_tot) r) ∧ LVs [some (rv 31), some (iv 0)] ls' ∧ Nx h h' ∧ Fq [63, 66, 72, 73] [] h h' ∧ Rg 63 i 192 (fun _ => 0) h h' ∧ Rg 66 i 192 (fun _ => 0) h h' ∧ Rg 72 i 192 (fun _ => 0) h h' ∧ Rg 73 i 192 (fun j => rd 42 j h) h h' := by
  intro n
  induction n with
  | zero => intro i ls h hT h1 h2; omega
  | succ n ih =>
    intro i ls h hT h1 b_i hl
    have bt : i < 192 → 0 ≤ rd 42 i h ∧ rd 42 i h ≤ 9 := fun z => rda_ok hT 42 192 0 9 rfl b_i.1 (by omega)
    rcases s154d hT b_i hl with ⟨f0, f1, T, lv, Hl, K⟩ | ⟨throwing8, g1, g2, g3, g4, rfl, rfl, rfl, rfl, f0, f1, f2, rfl, T, lv, Hl, K⟩
    · exact ⟨h, lv, Hl.fg 1 rfl, K, Hl, T, Fq.refl h, Rg.nil (by omega), Rg.nil (by omega), Rg.nil (by omega), Rg.nil (by omega)⟩
    · have F := ((((Fq.refl (Ks := [63, 66, 72, 73]) (fs := []) h).put 63 i 0 rfl).put 66 i 0 rfl).put 72 i 0 rfl).put 73 i (rd 42 i h) rfl
      have e42 : ∀ j, rd 42 j (wr 73 i (rd 42 i h) (wr 72 i 0 (wr 66 i 0 (wr 63 i 0 h)))) = rd 42 j h := fun j => F.k 42 j rfl
      obtain ⟨h', ls', u0, u1, u9, u2, u3, u4, u5, u6, u7⟩ := ih (i + 1) lv _ T.1 (by omega) (by omega) Hl
      simp only [e42] at u7
      have := bt (by omega)
      exact ⟨h', ls', u0, fun d r hd e => K d r hd (u1 d r hd e), u9, T.trans u2, F.trans u3, Rg.step (fun j hj => by simp (disch := omega) only [rdk, rd_wr]) u4 (by omega), Rg.step (fun j hj => by simp (disch := omega) only [rdk, rd_wr]) u5 (by omega), Rg.step (fun j hj => by simp (disch := omega) only [rdk, rd_wr]) u6 (by omega), Rg.step (fun j hj => by simp (disch := omega) only [rdk, rd_wr]) u7 (by omega)⟩
theorem c_bg_c : ∀ (n : Nat) (i : Int) (ls : List (Option Value)) (h : Hp), TInv h → 24 - i < n → (0 ≤ i ∧ i ≤ 24) → LVs [some (rv 31), some (iv i)] ls → ∃ h' ls', (∀ d r, 3 ≤ d → Ev d 154 (150, ls', [], h', fl_tot) r → Ev d 154 (108, ls, [], h, fl_tot) r) ∧ LVs [some (rv 31), some (iv 0)] ls' ∧ Nx h h' ∧ Fq [62, 71, 74, 75] [] h h' ∧ Rg 62 i 24 (fun _ => -1) h h' ∧ Rg 74 i 24 (fun _ => 1) h h' ∧ Rg 75 i 24 (fun _ => 0) h h' := by
  intro n
  induction n with
  | zero => intro i ls h hT h1 h2; omega
  | succ n ih =>
    intro i ls h hT h1 b_i hl
    rcases s154c hT b_i hl with ⟨f0, f1, T, lv, Hl, K⟩ | ⟨g1, g2, g3, g4, rfl, rfl, rfl, rfl, f0, f1, T, lv, Hl, K⟩
    · exact ⟨h, lv, K, Hl, T, Fq.refl h, Rg.nil (by omega), Rg.nil (by omega), Rg.nil (by omega)⟩
    · have F := ((((Fq.refl (Ks := [62, 71, 74, 75]) (fs := []) h).put 62 i (-1) rfl).put 71 i 0 rfl).put 74 i 1 rfl).put 75 i 0 rfl
      obtain ⟨h', ls', u1, u9, u2, u3, u4, u5, u6⟩ := ih (i + 1) lv _ T.1 (by omega) (by omega) Hl
      exact ⟨h', ls', fun d r hd e => K d r hd (u1 d r hd e), u9, T.trans u2, F.trans u3, Rg.step (fun j hj => by simp (disch := omega) only [rdk, rd_wr]) u4 (by omega), Rg.step (fun j hj => by simp (disch := omega) only [rdk, rd_wr]) u5 (by omega), Rg.step (fun j hj => by simp (disch := omega) only [rdk, rd_wr]) u6 (by omega)⟩
theorem c_bg_b : ∀ (n : Nat) (i : Int) (ls : List (Option Value)) (h : Hp), TInv h → 5 - i < n → (0 ≤ i ∧ i ≤ 5) → LVs [some (rv 31), some (iv i)] ls → ∃ h' ls', (∀ d r, 3 ≤ d → Ev d 154 (108, ls', [], h', fl_tot) r → Ev d 154 (67, ls, [], h, fl_tot) r) ∧ LVs [some (rv 31), some (iv 0)] ls' ∧ Nx h h' ∧ Fq [51, 52, 53, 59] [] h h' ∧ Rg 51 i 5 (fun _ => 0) h h' ∧ Rg 52 i 5 (fun _ => 0) h h' ∧ Rg 53 i 5 (fun _ => 0) h h' ∧ Rg 59 i 5 (fun _ => 0) h h' := by
  intro n
  induction n with
  | zero => intro i ls h hT h1 h2; omega
  | succ n ih =>
    intro i ls h hT h1 b_i hl
    rcases s154b hT b_i hl with ⟨f0, f1, T, lv, Hl, K⟩ | ⟨g1, g2, g3, g4, rfl, rfl, rfl, rfl, f0, f1, T, lv, Hl, K⟩
    · exact ⟨h, lv, K, Hl, T, Fq.refl h, Rg.nil (by omega), Rg.nil (by omega), Rg.nil (by omega), Rg.nil (by omega)⟩
    · have F := ((((Fq.refl (Ks := [51, 52, 53, 59]) (fs := []) h).put 51 i 0 rfl).put 52 i 0 rfl).put 53 i 0 rfl).put 59 i 0 rfl
      obtain ⟨h', ls', u1, u9, u2, u3, u4, u5, u6, u7⟩ := ih (i + 1) lv _ T.1 (by omega) (by omega) Hl
      exact ⟨h', ls', fun d r hd e => K d r hd (u1 d r hd e), u9, T.trans u2, F.trans u3, Rg.step (fun j hj => by simp (disch := omega) only [rdk, rd_wr]) u4 (by omega), Rg.step (fun j hj => by simp (disch := omega) only [rdk, rd_wr]) u5 (by omega), Rg.step (fun j hj => by simp (disch := omega) only [rdk, rd_wr]) u6 (by omega), Rg.step (fun j hj => by simp (disch := omega) only [rdk, rd_wr]) u7 (by omega)⟩
theorem c_bg_a : ∀ (n : Nat) (i : Int) (ls : List (Option Value)) (h : Hp), TInv h → 40 - i < n → (0 ≤ i ∧ i ≤ 40) → LVs [some (rv 31), some (iv i)] ls → ∃ h' ls', (∀ d r, 3 ≤ d → Ev d 154 (67, ls', [], h', fl_tot) r → Ev d 154 (17, ls, [], h, fl_tot) r) ∧ LVs [some (rv 31), some (iv 0)] ls' ∧ Nx h h' ∧ Fq [46, 47, 48, 49, 50] [] h h' ∧ Rg 49 i 40 (fun _ => -1) h h' ∧ Rg 50 i 40 (fun _ => -1) h h' := by
  intro n
  induction n with
  | zero => intro i ls h hT h1 h2; omega
  | succ n ih =>
    intro i ls h hT h1 b_i hl
    rcases s154a hT b_i hl with ⟨f0, f1, T, lv, Hl, K⟩ | ⟨g1, g2, g3, g4, g5, rfl, rfl, rfl, rfl, rfl, f0, f1, T, lv, Hl, K⟩
    · exact ⟨h, lv, K, Hl, T, Fq.refl h, Rg.nil (by omega), Rg.nil (by omega)⟩
    · have F := (((((Fq.refl (Ks := [46, 47, 48, 49, 50]) (fs := []) h).put 46 i 0 rfl).put 47 i 6 rfl).put 48 i 0 rfl).put 49 i (-1) rfl).put 50 i (-1) rfl
      obtain ⟨h', ls', u1, u9, u2, u3, u4, u5⟩ := ih (i + 1) lv _ T.1 (by omega) (by omega) Hl
      exact ⟨h', ls', fun d r hd e => K d r hd (u1 d r hd e), u9, T.trans u2, F.trans u3, Rg.step (fun j hj => by simp (disch := omega) only [rdk, rd_wr]) u4 (by omega), Rg.step (fun j hj => by simp (disch := omega) only [rdk, rd_wr]) u5 (by omega)⟩
abbrev bgKs : List Nat := [46, 47, 48, 49, 50, 51, 52, 53, 59, 62, 63, 66, 69, 70, 71, 72, 73, 74, 75, 77, 78, 79, 80]
def BgnP (h h' : Hp) : Prop := Fq bgKs [15, 16, 42] h h' ∧ rd 31 15 h' = 0 ∧ rd 31 16 h' = 0 ∧ rd 31 42 h' = 0 ∧
  (∀ j, 0 ≤ j → j < 40 → rd 49 j h' = -1 ∧ rd 50 j h' = -1) ∧ (∀ j, 0 ≤ j → j < 5 → rd 51 j h' = 0 ∧ rd 52 j h' = 0 ∧ rd 53 j h' = 0 ∧ rd 59 j h' = 0) ∧ (∀ j, 0 ≤ j → j < 24 → rd 62 j h' = -1 ∧ rd 74 j h' = 1 ∧ rd 75 j h' = 0) ∧
  (∀ j, 0 ≤ j → j < 192 → rd 63 j h' = 0 ∧ rd 66 j h' = 0 ∧ rd 72 j h' = 0 ∧ rd 73 j h' = rd 42 j h) ∧ (∀ j, 0 ≤ j → j < 6 → rd 69 j h' = 0 ∧ rd 70 j h' = 0)
theorem c_begins {h : Hp} (hT : TInv h) : ∃ h', (∀ d, 3 ≤ d → Ev d 154 (0, fl_enter 2 [rv 31], [], h, fl_tot) (none, h', fl_tot)) ∧ Nx h h' ∧ BgnP h h' := by
  have F0 := ((((Fq.refl (Ks := bgKs) (fs := [15, 16, 42]) h).putf 15 0 rfl).putf 16 0 rfl).putf 42 0 rfl)
  have z1 : rd 31 15 (wr 31 42 0 (wr 31 16 0 (wr 31 15 0 h))) = 0 := by
    rw [rd_ne (by decide) (by decide) (by decide)]
    first | (rw [rd_ne (by decide) (by decide) (by decide)]; exact rd_eq (by decide) (by decide)) | exact rd_eq (by decide) (by decide)
  have z2 : rd 31 16 (wr 31 42 0 (wr 31 16 0 (wr 31 15 0 h))) = 0 := by
    rw [rd_ne (by decide) (by decide) (by decide)]
    first | (rw [rd_ne (by decide) (by decide) (by decide)]; exact rd_eq (by decide) (by decide)) | exact rd_eq (by decide) (by decide)
  have z3 : rd 31 42 (wr 31 42 0 (wr 31 16 0 (wr 31 15 0 h))) = 0 := rd_eq (by omega) (by omega)
  obtain ⟨g1, g2, g3, rfl, rfl, rfl, T, lv, Hl, K⟩ := s154 hT (LVs.self (fl_enter 2 [rv 31]))
  generalize wr 31 42 0 (wr 31 16 0 (wr 31 15 0 h)) = g at *
  obtain ⟨ha, la, a1, a2, a3, a4, a5, a6⟩ := c_bg_a 41 0 lv g T.1 (by omega) (by omega) Hl
  obtain ⟨hb, lb, b1, b2, b3, b4, b5, b6, b7, b8⟩ := c_bg_b 6 0 la ha a3.1 (by omega) (by omega) a2
  obtain ⟨hc, lc, c1, c2, c3, c4, c5, c6, c7⟩ := c_bg_c 25 0 lb hb b3.1 (by omega) (by omega) b2
  obtain ⟨hd, ld, d0, d1, d2, d3, d4, d5, d6, d7, d8⟩ := c_bg_d 193 0 lc hc c3.1 (by omega) (by omega) c2
  obtain ⟨he, e1, e2, e3, e4, e5⟩ := c_bg_e 7 0 ld hd d3.1 (by omega) (by omega) d2
  have Fb := a4.wide (Ks' := bgKs) (fs' := [15, 16, 42]) rfl rfl
  have Fc := b4.wide (Ks' := bgKs) (fs' := [15, 16, 42]) rfl rfl
  have Fd := c4.wide (Ks' := bgKs) (fs' := [15, 16, 42]) rfl rfl
  have Fe := d4.wide (Ks' := bgKs) (fs' := [15, 16, 42]) rfl rfl
  have Ff := e3.wide (Ks' := bgKs) (fs' := [15, 16, 42]) rfl rfl
  have f : ∀ k : Int, (k = 15 ∨ k = 16 ∨ k = 42) → rd 31 k he = rd 31 k g := fun k hk => by
    have hk0 : 0 ≤ k := by omega
    rw [e3.2 k hk0 (by simp), d4.2 k hk0 (by simp), c4.2 k hk0 (by simp), b4.2 k hk0 (by simp), a4.2 k hk0 (by simp)]
  refine ⟨he, fun d hd => K d _ hd (a1 d _ hd (b1 d _ hd (c1 d _ hd (d1 d _ hd (e1 d hd))))), T.trans (a3.trans (b3.trans (c3.trans (d3.trans e2)))), F0.trans (Fb.trans (Fc.trans (Fd.trans (Fe.trans Ff)))), by rw [f 15 (by omega)]; exact z1, by rw [f 16 (by omega)]; exact z2, by rw [f 42 (by omega)]; exact z3, fun j q1 q2 => ⟨?_, ?_⟩, fun j q1 q2 => ⟨?_, ?_, ?_, ?_⟩, fun j q1 q2 => ⟨?_, ?_, ?_⟩, fun j q1 q2 => ⟨?_, ?_, ?_, ?_⟩, fun j q1 q2 => ⟨?_, ?_⟩⟩
  · rw [e3.k 49 j rfl, d4.k 49 j rfl, c4.k 49 j rfl, b4.k 49 j rfl, a5 j q1, if_pos (by omega)]
  · rw [e3.k 50 j rfl, d4.k 50 j rfl, c4.k 50 j rfl, b4.k 50 j rfl, a6 j q1, if_pos (by omega)]
  · rw [e3.k 51 j rfl, d4.k 51 j rfl, c4.k 51 j rfl, b5 j q1, if_pos (by omega)]
  · rw [e3.k 52 j rfl, d4.k 52 j rfl, c4.k 52 j rfl, b6 j q1, if_pos (by omega)]
  · rw [e3.k 53 j rfl, d4.k 53 j rfl, c4.k 53 j rfl, b7 j q1, if_pos (by omega)]
  · rw [e3.k 59 j rfl, d4.k 59 j rfl, c4.k 59 j rfl, b8 j q1, if_pos (by omega)]
  · rw [e3.k 62 j rfl, d4.k 62 j rfl, c5 j q1, if_pos (by omega)]
  · rw [e3.k 74 j rfl, d4.k 74 j rfl, c6 j q1, if_pos (by omega)]
  · rw [e3.k 75 j rfl, d4.k 75 j rfl, c7 j q1, if_pos (by omega)]
  · rw [e3.k 63 j rfl, d5 j q1, if_pos (by omega)]
  · rw [e3.k 66 j rfl, d6 j q1, if_pos (by omega)]
  · rw [e3.k 72 j rfl, d7 j q1, if_pos (by omega)]
  · rw [e3.k 73 j rfl, d8 j q1, if_pos (by omega)]
    show rd 42 j hc = rd 42 j h
    rw [c4.k 42 j rfl, b4.k 42 j rfl, a4.k 42 j rfl, F0.k 42 j rfl]
  · rw [e4 j q1, if_pos (by omega)]
  · rw [e5 j q1, if_pos (by omega)]
theorem RI.begins {h h' : Hp} (hT : TInv h) (V : SV h) (B : BgnP h h') : RI h' := by
  obtain ⟨F, z1, z2, z3, b1, b2, b3, b4, b5⟩ := B
  have bd := BD.of hT
  have bn : ∀ f : Int → Int, (∀ i, 0 ≤ i → i ≤ 4 → 0 ≤ f i) → 0 ≤ S5 f := fun f hf => by
    have := S5_mono (f := fun _ => 0) (g := f) hf
    have e : S5 (fun _ => 0) = 0 := rfl
    omega
  refine ⟨V.fr F rfl, fun c q1 q2 => ?_, ⟨?_, ?_, fun m q1 q2 => by omega⟩, fun t q1 q2 => ?_, ⟨fun s q1 q2 => ?_, fun t k q1 q2 q3 q4 q5 q6 q7 => ?_, fun t k k' q1 q2 q3 q4 q5 q6 q7 q8 q9 q10 q11 q12 => ?_⟩, by omega, by omega⟩
  · rw [F.f 4 rfl] at q2
    have hc4 : c ≤ 4 := by have := bd.1; omega
    obtain ⟨r1, r2, r3, r4⟩ := b2 c q1 (by omega)
    unfold RC1
    rw [r1, r2, r3, F.k 35 c rfl, stS_fr F rfl]
    have := (bd.2.2.1 c q1 hc4)
    have ha0 := (rda_ok hT 35 5 0 8 rfl (i := c) q1 (by omega))
    refine ⟨ha0.1, fun z => ⟨by omega, by omega, fun w => absurd rfl w, ?_⟩, fun w => absurd rfl w⟩
    have hact := (V c 0 q1 q2 (by omega) z).1
    have b_op := bd.2.2.2.2 (8 * c + 0) (by omega) (by omega)
    exact stF_0 (fun q => ⟨b_op, hact.1 q⟩) (fun q => hact.2 (Or.inl q)) ⟨q1, hc4⟩
  · rw [z2]
    refine bn _ fun i w1 w2 => ?_
    have := bOf_bd h' i
    have := (b2 i w1 (by omega)).1
    omega
  · rw [z2]
    have e : cntB h' (0 : Int).toNat = 0 := rfl
    rw [e]
    refine bn _ fun i w1 w2 => ?_
    have := bOf_bd h' i
    have := (b2 i w1 (by omega)).1
    omega
  · rw [(b5 t q1 (by omega)).1]
    refine bn _ fun i w1 w2 => ?_
    have := wOf_bd h' i
    have := (b2 i w1 (by omega)).1
    omega
  · obtain ⟨r1, r2, r3⟩ := b3 s q1 q2
    exact ⟨by omega, fun z => by omega⟩
  · have := (b4 (32 * t + k) (by omega) (by omega)).1
    omega
  · have := (b4 (32 * t + k) (by omega) (by omega)).1
    omega
