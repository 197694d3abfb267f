
set_option maxRecDepth 20000
/-! WHO IS ABLE -/
def ableV (h : Hp) (c : Int) : Int :=
  if rd 51 c h = rd 35 c h then 0
  else if rd 53 c h ≠ 0 then (if 0 < rd 40 (8 * c + rd 51 c h) h ∧ rd 40 (8 * c + rd 51 c h) h ≤ rd 31 15 h - rd 54 c h then 1 else 0)
  else if stS h (8 * c + rd 51 c h) c (rd 52 c h) < 100 ∨ 200 ≤ stS h (8 * c + rd 51 c h) c (rd 52 c h) ∨ rd 34 (rd 36 (8 * c + rd 51 c h) h) h = 1 then 1
  else if rd 62 (4 * rd 36 (8 * c + rd 51 c h) h + stS h (8 * c + rd 51 c h) c (rd 52 c h) + -100) h = -1 ∨ rd 62 (4 * rd 36 (8 * c + rd 51 c h) h + stS h (8 * c + rd 51 c h) c (rd 52 c h) + -100) h = c then 1 else 0
theorem ableV_bd (h : Hp) (c : Int) : ableV h c = 0 ∨ ableV h c = 1 := by
  unfold ableV
  repeat' split
  all_goals omega
def AbPre (h : Hp) (c : Int) : Prop := rd 51 c h ≠ rd 35 c h → rd 51 c h ≤ 7 ∧ actOK h (8 * c + rd 51 c h) ∧ (rd 53 c h ≠ 0 → 0 ≤ rd 54 c h ∧ rd 54 c h ≤ 601) ∧ (rd 53 c h = 0 → 0 ≤ rd 52 c h)
theorem RI.ab {h : Hp} (hT : TInv h) (I : RI h) {c : Int} (h0 : 0 ≤ c) (h1 : c < rd 31 4 h) : AbPre h c := fun hne => by
  obtain ⟨V, C, -⟩ := I
  have bd := BD.of hT
  have := bd.1
  have b1 := bd.2.1 c h0 (by omega)
  have b2 := bd.2.2.1 c h0 (by omega)
  obtain ⟨c1, c2, c3⟩ := C c h0 h1
  have hlt : rd 51 c h < rd 35 c h := by omega
  exact ⟨by omega, (V c _ h0 h1 b2.1 hlt).1, fun z => (c3 z).2, fun _ => (c2 hlt).1⟩
theorem c_isAble {h : Hp} (hT : TInv h) {c : Int} (b_c : 0 ≤ c ∧ c ≤ 4) (A : AbPre h c) : ∀ d, 4 ≤ d → Ev d 156 (0, fl_enter 5 [rv 31, iv c], [], h, fl_tot) (some (iv (ableV h c)), h, fl_tot) := by
  have b_n := rda_ok hT 51 5 0 8 rfl (i := c) (by omega) (by omega)
  have b_st : 0 ≤ rd 31 15 h ∧ rd 31 15 h ≤ 600 := rdt_ok hT 31 15
  intro d hd
  unfold AbPre at A
  unfold ableV
  rcases s156 hT b_c (LVs.self (fl_enter 5 [rv 31, iv c])) with ⟨now4, acts6, n7, now8, n9, f0, f1, f2, f3, f4, rfl, rfl, f7, rfl, rfl, rfl, f11⟩ | ⟨now4, acts6, n7, now8, n9, isWaiting11, pos13, f0, f1, f2, f3, f4, f5, f6, rfl, rfl, f9, rfl, rfl, rfl, rfl, f14, rfl, T, lv, Hl, K⟩ | ⟨now4, acts6, n7, now8, n9, isWaiting11, patience13, f0, f1, f2, f3, f4, f5, f6, rfl, rfl, f9, rfl, rfl, rfl, rfl, f14, rfl, f16, T, K⟩ | ⟨now4, acts6, n7, now8, n9, isWaiting11, patience13, steps14, since16, f0, f1, f2, f3, f4, f5, f6, f7, f8, rfl, rfl, f11, rfl, rfl, rfl, rfl, f16, rfl, f18, rfl, rfl, f21⟩ | ⟨now4, acts6, n7, now8, n9, isWaiting11, patience13, steps14, since16, f0, f1, f2, f3, f4, f5, f6, f7, f8, rfl, rfl, f11, rfl, rfl, rfl, rfl, f16, rfl, f18, rfl, rfl, f21⟩ | ⟨now4, acts6, n7, now8, n9, isWaiting11, patience13, steps14, since16, n17, patience18, f0, f1, f2, f3, f4, f5, f6, f7, f8, f9, f10, rfl, rfl, f13, rfl, rfl, rfl, rfl, f18, rfl, f20, rfl, rfl, rfl, rfl, f25, T, K⟩ | ⟨now4, acts6, n7, now8, n9, isWaiting11, patience13, steps14, since16, n17, patience18, f0, f1, f2, f3, f4, f5, f6, f7, f8, f9, f10, rfl, rfl, f13, rfl, rfl, rfl, rfl, f18, rfl, f20, rfl, rfl, rfl, rfl, f25, T, K⟩ | ⟨now4, acts6, f0, f1, rfl, rfl, f4, T, K⟩
  all_goals first | (exfalso; have := A (by omega); omega) | skip
  · obtain ⟨a1, a2, a3, a4⟩ := A (by omega)
    have b_op := rda_ok hT 37 40 0 4 rfl (i := 8 * c + rd 51 c h) (by omega) (by omega)
    unfold actOK at a2
    have S := c_stepOf T.1 (x := 8 * c + rd 51 c h) (c := c) (i := rd 52 c h) (by omega) b_c (by omega) (fun z => a2.2 (Or.inl z))
    have rg := stF_range (k := rd 32 (rd 36 (8 * c + rd 51 c h) h) h) (op := rd 37 (8 * c + rd 51 c h) h) (a := rd 38 (8 * c + rd 51 c h) h) (f := rd 34 (rd 36 (8 * c + rd 51 c h) h) h) (c := c) (i := rd 52 c h) (fun z => a2.2 (Or.inl z)) (fun z => ⟨b_op.1, a2.1 z⟩) b_c (a4 (by omega))
    have es : stF (rd 32 (rd 36 (8 * c + rd 51 c h) h) h) (rd 37 (8 * c + rd 51 c h) h) (rd 38 (8 * c + rd 51 c h) h) (rd 34 (rd 36 (8 * c + rd 51 c h) h) h) c (rd 52 c h) = stS h (8 * c + rd 51 c h) c (rd 52 c h) := rfl
    rw [es] at rg
    have K1 := K
    obtain ⟨d, rfl⟩ : ∃ d', d = d' + 1 := ⟨d - 1, by omega⟩
    refine K1 d _ _ _ (by omega) (S d (by omega)) ?_
    generalize stS h (8 * c + rd 51 c h) c (rd 52 c h) = st at *
    rw [if_neg (show ¬ rd 51 c h = rd 35 c h by omega), if_neg (show ¬ rd 53 c h ≠ 0 by omega)]
    rcases s156b hT b_c (x := 8 * c + rd 51 c h) (by omega) (st := st) (by omega) Hl with ⟨f0, f1, T, K⟩ | ⟨f0, f1, f2, T, K⟩ | ⟨trayOf7, fault8, trayOf10, n11, n12, f0, f1, f2, f3, f4, f5, f6, f7, rfl, rfl, f10, rfl, rfl, rfl, f14⟩ | ⟨trayOf7, fault8, trayOf10, n11, n12, owner13, f0, f1, f2, f3, f4, f5, f6, f7, f8, rfl, rfl, f11, rfl, rfl, rfl, rfl, f16, T, K⟩ | ⟨trayOf7, fault8, trayOf10, n11, n12, owner13, f0, f1, f2, f3, f4, f5, f6, f7, f8, rfl, rfl, f11, rfl, rfl, rfl, rfl, f16, f17, T, K⟩ | ⟨trayOf7, fault8, trayOf10, n11, n12, owner13, f0, f1, f2, f3, f4, f5, f6, f7, f8, rfl, rfl, f11, rfl, rfl, rfl, rfl, f16, f17, T, K⟩ | ⟨trayOf7, fault8, f0, f1, f2, f3, f4, rfl, rfl, f7, T, K⟩
    all_goals first | (exfalso; omega) | skip
    all_goals (refine ret_eq (K (d + 1) (by omega)) ?_)
    · rw [if_pos (by omega)]
    · rw [if_pos (by omega)]
    · rw [if_neg (by omega), if_pos (by omega)]
    · rw [if_neg (by omega), if_neg (by omega)]
    · rw [if_neg (by omega), if_pos (by omega)]
    · rw [if_pos (by omega)]
  · refine ret_eq (K d (by omega)) ?_
    rw [if_neg (by omega), if_pos (by omega), if_neg (by omega)]
  · refine ret_eq (K d (by omega)) ?_
    rw [if_neg (by omega), if_pos (by omega), if_neg (by omega)]
  · refine ret_eq (K d (by omega)) ?_
    rw [if_neg (by omega), if_pos (by omega), if_pos (by omega)]
  · refine ret_eq (K d (by omega)) ?_
    rw [if_pos (by omega)]
theorem c_least_l {h : Hp} (hT : TInv h) (A : ∀ c, 0 ≤ c → c < rd 31 4 h → AbPre h c) : ∀ (n : Nat) (c : Int) (ls : List (Option Value)), 5 - c < n → (0 ≤ c ∧ c ≤ 5) → c ≤ rd 31 4 h → LVs [some (rv 31), some (iv c)] ls → ∃ v, (v = -1 ∨ (0 ≤ v ∧ v < rd 31 4 h ∧ ableV h v = 1)) ∧ ∀ d, 5 ≤ d → Ev d 155 (2, ls, [], h, fl_tot) (some (iv v), h, fl_tot) := by
  intro n
  induction n with
  | zero => intro c ls h1 h2; omega
  | succ n ih =>
    intro c ls h1 b_c h3 hl
    have b4 : 0 ≤ rd 31 4 h ∧ rd 31 4 h ≤ 5 := rdt_ok hT 31 4
    rcases s155l hT b_c hl with ⟨clerks3, f0, rfl, f2, f3, f4, T, K⟩ | ⟨clerks3, f0, rfl, f2, f3, f4, T, K⟩ | ⟨clerks3, f0, f1, rfl, f3, T, lv, Hl, K⟩
    · omega
    · exact ⟨-1, Or.inl rfl, fun d hd => K d (by omega)⟩
    · have a := c_isAble hT (c := c) (by omega) (A c b_c.1 (by omega))
      have ab := ableV_bd h c
      have K1 := K
      rcases s155b hT (c := c) (by omega) (b := ableV h c) (by omega) Hl with ⟨clerks4, f0, f1, f2, rfl, f4, T, K⟩ | ⟨clerks4, f0, f1, f2, rfl, f4, T, K⟩ | ⟨f0, f1, T, lv, Hl, K⟩
      · refine ⟨c, Or.inr ⟨by omega, by omega, by omega⟩, fun d hd => ?_⟩
        obtain ⟨d, rfl⟩ : ∃ d', d = d' + 1 := ⟨d - 1, by omega⟩
        exact K1 d _ _ _ (by omega) (a d (by omega)) (K (d + 1) (by omega))
      · omega
      · obtain ⟨v, v1, v2⟩ := ih (c + 1) lv (by omega) (by omega) (by omega) Hl
        refine ⟨v, v1, fun d hd => ?_⟩
        obtain ⟨d, rfl⟩ : ∃ d', d = d' + 1 := ⟨d - 1, by omega⟩
        exact K1 d _ _ _ (by omega) (a d (by omega)) (K (d + 1) _ (by omega) (v2 (d + 1) (by omega)))
theorem c_least {h : Hp} (hT : TInv h) (A : ∀ c, 0 ≤ c → c < rd 31 4 h → AbPre h c) : ∃ v, (v = -1 ∨ (0 ≤ v ∧ v < rd 31 4 h ∧ ableV h v = 1)) ∧ ∀ d, 5 ≤ d → Ev d 155 (0, fl_enter 2 [rv 31], [], h, fl_tot) (some (iv v), h, fl_tot) := by
  have b4 : 0 ≤ rd 31 4 h ∧ rd 31 4 h ≤ 5 := rdt_ok hT 31 4
  obtain ⟨T, lv, Hl, K⟩ := s155 hT (LVs.self (fl_enter 2 [rv 31]))
  obtain ⟨v, v1, v2⟩ := c_least_l hT A 6 0 lv (by omega) (by omega) (by omega) Hl
  exact ⟨v, v1, fun d hd => K d _ (by omega) (v2 d hd)⟩
theorem c_how_l {h : Hp} (hT : TInv h) : ∀ (n : Nat) (c : Int) (ls : List (Option Value)), 5 - c < n → (0 ≤ c ∧ c ≤ 5) → LVs [some (rv 31), some (iv c)] ls → ∃ v, (0 ≤ v ∧ v ≤ 1) ∧ ∀ d, 3 ≤ d → Ev d 178 (12, ls, [], h, fl_tot) (some (iv v), h, fl_tot) := by
  intro n
  induction n with
  | zero => intro c ls h1 h2; omega
  | succ n ih =>
    intro c ls h1 b_c hl
    have b4 : 0 ≤ rd 31 4 h ∧ rd 31 4 h ≤ 5 := rdt_ok hT 31 4
    rcases s178l hT b_c hl with ⟨clerks3, f0, rfl, f2, T, K⟩ | ⟨clerks3, now5, acts7, f0, f1, f2, f3, rfl, f5, rfl, rfl, f8, T, lv, Hl, K⟩ | ⟨clerks3, now5, acts7, f0, f1, f2, f3, rfl, f5, rfl, rfl, f8, T, K⟩
    · exact ⟨0, by omega, K⟩
    · obtain ⟨v, v1, v2⟩ := ih (c + 1) lv (by omega) (by omega) Hl
      exact ⟨v, v1, fun d hd => K d _ hd (v2 d hd)⟩
    · exact ⟨1, by omega, K⟩
theorem c_how {h : Hp} (hT : TInv h) (A : ∀ c, 0 ≤ c → c < rd 31 4 h → AbPre h c) : ∃ v, (0 ≤ v ∧ v ≤ 2) ∧ ∀ d, 6 ≤ d → Ev d 178 (0, fl_enter 2 [rv 31], [], h, fl_tot) (some (iv v), h, fl_tot) := by
  have b4 : 0 ≤ rd 31 4 h ∧ rd 31 4 h ≤ 5 := rdt_ok hT 31 4
  obtain ⟨v, v1, v2⟩ := c_least hT A
  obtain ⟨T, lv, Hl, K⟩ := s178 hT (LVs.self (fl_enter 2 [rv 31]))
  have K1 := K
  rcases s178b hT (v := v) (by omega) Hl with ⟨f0, f1, T, lv, Hl, K⟩ | ⟨f0, f1, T, K⟩
  · obtain ⟨w, w1, w2⟩ := c_how_l hT 6 0 lv (by omega) (by omega) Hl
    refine ⟨w, by omega, fun d hd => ?_⟩
    obtain ⟨d, rfl⟩ : ∃ d', d = d' + 1 := ⟨d - 1, by omega⟩
    exact K1 d _ _ _ (by omega) (v2 d (by omega)) (K (d + 1) _ (by omega) (w2 (d + 1) (by omega)))
  · refine ⟨2, by omega, fun d hd => ?_⟩
    obtain ⟨d, rfl⟩ : ∃ d', d = d' + 1 := ⟨d - 1, by omega⟩
    exact K1 d _ _ _ (by omega) (v2 d (by omega)) (K (d + 1) (by omega))
