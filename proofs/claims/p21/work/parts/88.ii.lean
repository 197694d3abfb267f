
set_option maxRecDepth 20000
/-! WHAT THE REFERENCE'S METHODS LEAVE ALONE -/
abbrev bKs : List Nat := [43, 44, 45, 46, 47, 48, 49, 50, 51, 52, 53, 54, 55, 56, 57, 58, 59, 60, 61, 62, 63, 64, 65, 66, 67, 68, 69, 70, 71, 72, 73, 74, 75, 76, 77, 78, 79, 80, 81, 82, 83, 84, 85, 86, 87, 88, 89, 90, 91, 92]
abbrev bFs : List Int := [13, 14, 15, 16, 42, 56, 57, 60, 64, 68, 69, 74]
def PubF (h : Hp) (m nL : Nat) (as : List Value) : Prop := ∃ v h', (∀ d, 14 ≤ d → Ev d m (0, fl_enter nL as, [], h, fl_tot) (v, h', fl_tot)) ∧ Fq bKs bFs h h'
theorem pubF {h : Hp} {m nL : Nat} {as : List Value} {v : Option Value} {h' : Hp} {D : Nat} (K : ∀ d, D ≤ d → Ev d m (0, fl_enter nL as, [], h, fl_tot) (v, h', fl_tot)) (hD : D ≤ 14) (F : Fq bKs bFs h h') : PubF h m nL as := ⟨v, h', fun d hd => K d (by omega), F⟩
theorem pubF1 {h : Hp} {m nL : Nat} {as : List Value} {v : Option Value} {h' : Hp} {D : Nat} (K : ∀ d, D ≤ d → Ev (d + 1) m (0, fl_enter nL as, [], h, fl_tot) (v, h', fl_tot)) (hD : D ≤ 13) (F : Fq bKs bFs h h') : PubF h m nL as := pubF (D := D + 1) (fun d hd => by
  obtain ⟨d, rfl⟩ : ∃ d', d = d' + 1 := ⟨d - 1, by omega⟩
  exact K d (by omega)) (by omega) F
theorem fc_answer {h : Hp} (hT : TInv h) (G : RG h) {cl ac : Int} (b_cl : -2147483648 ≤ cl ∧ cl ≤ 2147483647) (b_ac : -2147483648 ≤ ac ∧ ac ≤ 2147483647) : PubF h 179 3 [rv 31, iv cl, iv ac] := by
  rcases s179 hT b_cl b_ac (LVs.self (fl_enter 3 [rv 31, iv cl, iv ac])) with ⟨clerks4, f0, f1, rfl, f3, f4, f5, T, K⟩ | ⟨clerks4, f0, f1, rfl, f3, f4, f5, f6, T, K⟩ | ⟨clerks4, f0, f1, f2, rfl, f4, f5, f6, f7, f8, T, K⟩ | ⟨clerks4, acts6, f0, f1, f2, f3, rfl, f5, f6, f7, f8, rfl, f10, f11, T, K⟩ | ⟨clerks4, acts6, isRun7, f0, f1, f2, f3, f4, rfl, f6, f7, f8, f9, rfl, f11, f12, rfl, f14, T, K⟩ | ⟨clerks4, acts6, isRun7, n9, n10, answers11, f0, f1, f2, f3, f4, f5, f6, f7, rfl, f9, f10, f11, f12, rfl, f14, f15, rfl, f17, rfl, rfl, rfl, T, K⟩
  all_goals exact pubF K (by omega) (Fq.refl h)
theorem fc_outcome {h : Hp} (hT : TInv h) (G : RG h) {cl ac : Int} (b_cl : -2147483648 ≤ cl ∧ cl ≤ 2147483647) (b_ac : -2147483648 ≤ ac ∧ ac ≤ 2147483647) : PubF h 180 3 [rv 31, iv cl, iv ac] := by
  rcases s180 hT b_cl b_ac (LVs.self (fl_enter 3 [rv 31, iv cl, iv ac])) with ⟨clerks4, f0, f1, rfl, f3, f4, f5, T, K⟩ | ⟨clerks4, f0, f1, rfl, f3, f4, f5, f6, T, K⟩ | ⟨clerks4, f0, f1, f2, rfl, f4, f5, f6, f7, f8, T, K⟩ | ⟨clerks4, acts6, f0, f1, f2, f3, rfl, f5, f6, f7, f8, rfl, f10, f11, T, K⟩ | ⟨clerks4, acts6, isRun7, n9, n10, outcomes11, f0, f1, f2, f3, f4, f5, f6, f7, rfl, f9, f10, f11, f12, rfl, f14, f15, rfl, f17, rfl, rfl, rfl, T, K⟩ | ⟨clerks4, acts6, isRun7, f0, f1, f2, f3, f4, rfl, f6, f7, f8, f9, rfl, f11, f12, rfl, f14, T, K⟩
  all_goals exact pubF K (by omega) (Fq.refl h)
theorem fc_waited {h : Hp} (hT : TInv h) (G : RG h) {cl ac : Int} (b_cl : -2147483648 ≤ cl ∧ cl ≤ 2147483647) (b_ac : -2147483648 ≤ ac ∧ ac ≤ 2147483647) : PubF h 181 3 [rv 31, iv cl, iv ac] := by
  rcases s181 hT b_cl b_ac (LVs.self (fl_enter 3 [rv 31, iv cl, iv ac])) with ⟨clerks4, f0, f1, rfl, f3, f4, f5, T, K⟩ | ⟨clerks4, f0, f1, rfl, f3, f4, f5, f6, T, K⟩ | ⟨clerks4, f0, f1, f2, rfl, f4, f5, f6, f7, f8, T, K⟩ | ⟨clerks4, acts6, f0, f1, f2, f3, rfl, f5, f6, f7, f8, rfl, f10, f11, T, K⟩ | ⟨clerks4, acts6, isRun7, n9, n10, waits11, f0, f1, f2, f3, f4, f5, f6, f7, rfl, f9, f10, f11, f12, rfl, f14, f15, rfl, f17, rfl, rfl, rfl, T, K⟩ | ⟨clerks4, acts6, isRun7, f0, f1, f2, f3, f4, rfl, f6, f7, f8, f9, rfl, f11, f12, rfl, f14, T, K⟩
  all_goals exact pubF K (by omega) (Fq.refl h)
theorem fc_mark {h : Hp} (hT : TInv h) (G : RG h) {i w : Int} (b_i : -2147483648 ≤ i ∧ i ≤ 2147483647) (b_w : -2147483648 ≤ w ∧ w ≤ 2147483647) : PubF h 182 3 [rv 31, iv i, iv w] := by
  rcases s182 hT b_i b_w (LVs.self (fl_enter 3 [rv 31, iv i, iv w])) with ⟨f0, f1, f2, T, K⟩ | ⟨f0, f1, f2, f3, T, K⟩ | ⟨isRun4, marks5, f0, f1, f2, f3, f4, f5, f6, rfl, f8, rfl, f10, f11, T, K⟩ | ⟨isRun4, marks5, f0, f1, f2, f3, f4, f5, f6, rfl, f8, rfl, f10, f11, f12, T, K⟩ | ⟨isRun4, marks5, markSteps7, f0, f1, f2, f3, f4, f5, f6, f7, rfl, f9, rfl, f11, f12, f13, f14, f15, f16, rfl, T, K⟩ | ⟨isRun4, marks5, markEnds7, f0, f1, f2, f3, f4, f5, f6, f7, rfl, f9, rfl, f11, f12, f13, f14, f15, f16, rfl, f18, T, K⟩ | ⟨isRun4, marks5, markEnds7, f0, f1, f2, f3, f4, f5, f6, f7, rfl, f9, rfl, f11, f12, f13, f14, f15, f16, rfl, f18, T, K⟩ | ⟨isRun4, marks5, markAct7, n8, f0, f1, f2, f3, f4, f5, f6, f7, f8, rfl, f10, rfl, f12, f13, f14, f15, f16, rfl, rfl, T, K⟩ | ⟨isRun4, marks5, markAct7, n8, f0, f1, f2, f3, f4, f5, f6, f7, f8, rfl, f10, rfl, f12, f13, f14, f15, rfl, rfl, T, K⟩ | ⟨isRun4, f0, f1, f2, f3, f4, rfl, f6, T, K⟩
  all_goals exact pubF K (by omega) (Fq.refl h)
theorem fc_asked {h : Hp} (hT : TInv h) (G : RG h) : PubF h 190 1 [rv 31] := by
  rcases s190 hT  (LVs.self (fl_enter 1 [rv 31])) with ⟨asked2, f0, rfl, T, K⟩
  all_goals exact pubF K (by omega) (Fq.refl h)
theorem fc_tries {h : Hp} (hT : TInv h) (G : RG h) : PubF h 204 1 [rv 31] := by
  rcases s204 hT  (LVs.self (fl_enter 1 [rv 31])) with ⟨tries2, f0, rfl, T, K⟩
  all_goals exact pubF K (by omega) (Fq.refl h)
theorem fc_explored {h : Hp} (hT : TInv h) (G : RG h) {w : Int} (b_w : -2147483648 ≤ w ∧ w ≤ 2147483647) : PubF h 211 2 [rv 31, iv w] := by
  rcases s211 hT b_w (LVs.self (fl_enter 2 [rv 31, iv w])) with ⟨f0, f1, f2, T, K⟩ | ⟨f0, f1, f2, f3, T, K⟩ | ⟨explored4, f0, f1, f2, f3, f4, rfl, T, K⟩
  all_goals exact pubF K (by omega) (Fq.refl h)
theorem fp_count {h : Hp} (hT : TInv h) (G : RG h) {w : Int} (b_w : -2147483648 ≤ w ∧ w ≤ 2147483647) : PubF h 183 4 [rv 31, iv w] := by
  obtain ⟨v, -, v1⟩ := c_count hT b_w
  exact pubF v1 (by omega) (Fq.refl h)
theorem fp_size {h : Hp} (hT : TInv h) (G : RG h) {tr : Int} (b_tr : -2147483648 ≤ tr ∧ tr ≤ 2147483647) : PubF h 184 2 [rv 31, iv tr] := by
  have b0 : 0 ≤ rd 31 0 h ∧ rd 31 0 h ≤ 6 := rdt_ok hT 31 0
  rcases s184 hT b_tr (LVs.self (fl_enter 2 [rv 31, iv tr])) with ⟨trays3, f0, f1, rfl, f3, f4, T, K⟩ | ⟨trays3, f0, f1, rfl, f3, f4, f5, T, K⟩ | ⟨trays3, isRun4, f0, f1, f2, rfl, f4, f5, f6, rfl, f8, T, lv, Hl, K⟩ | ⟨trays3, isRun4, f0, f1, f2, rfl, f4, f5, f6, rfl, f8, T, K⟩
  · exact pubF K (by omega) (Fq.refl h)
  · exact pubF K (by omega) (Fq.refl h)
  · have z := c_sizeOf hT (t := tr) (by omega)
    have zb := szV_bd hT (t := tr) (by omega)
    have K0 := K
    obtain ⟨T, K⟩ := s184r hT b_tr (v := szV h tr) (by omega) Hl
    refine pubF (D := 4) (v := some (iv (szV h tr))) (fun d hd => ?_) (by omega) (Fq.refl h)
    obtain ⟨d, rfl⟩ : ∃ d', d = d' + 1 := ⟨d - 1, by omega⟩
    exact K0 d _ _ _ (by omega) (z d (by omega)) (K (d + 1) (by omega))
  · exact pubF K (by omega) (Fq.refl h)
theorem fc_about {h : Hp} (hT : TInv h) (G : RG h) {tr w : Int} (b_tr : -2147483648 ≤ tr ∧ tr ≤ 2147483647) (b_w : -2147483648 ≤ w ∧ w ≤ 2147483647) : PubF h 191 5 [rv 31, iv tr, iv w] := by
  have b0 : 0 ≤ rd 31 0 h ∧ rd 31 0 h ≤ 6 := rdt_ok hT 31 0
  rcases s191 hT b_tr b_w (LVs.self (fl_enter 5 [rv 31, iv tr, iv w])) with ⟨trays4, f0, f1, rfl, f3, f4, T, K⟩ | ⟨trays4, f0, f1, rfl, f3, f4, f5, T, K⟩ | ⟨trays4, f0, f1, f2, rfl, f4, f5, f6, f7, f8, T, K⟩ | ⟨trays4, f0, f1, f2, rfl, f4, f5, f6, f7, f8, f9, T, K⟩ | ⟨trays4, kind6, isRun7, thrownMany9, f0, f1, f2, f3, f4, f5, rfl, f7, f8, f9, f10, f11, f12, rfl, f14, f15, f16, rfl, f18, f19, f20, f21, f22, f23, rfl, T, K⟩ | ⟨trays4, kind6, isRun7, began9, f0, f1, f2, f3, f4, f5, rfl, f7, f8, f9, f10, f11, f12, rfl, f14, f15, f16, rfl, f18, rfl, T, K⟩ | ⟨trays4, kind6, isRun7, f0, f1, f2, f3, f4, rfl, f6, f7, f8, f9, f10, f11, rfl, f13, f14, f15, rfl, f17, T, K⟩ | ⟨trays4, kind6, f0, f1, f2, f3, rfl, f5, f6, f7, f8, f9, f10, rfl, f12, f13, f14, T, K⟩ | ⟨trays4, kind6, isRun7, thrownMany9, f0, f1, f2, f3, f4, f5, rfl, f7, f8, f9, f10, f11, f12, rfl, f14, f15, f16, rfl, f18, f19, f20, f21, f22, f23, rfl, T, K⟩ | ⟨trays4, kind6, isRun7, isClosed9, f0, f1, f2, f3, f4, f5, rfl, f7, f8, f9, f10, f11, f12, rfl, f14, f15, f16, rfl, f18, rfl, f20, T, K⟩ | ⟨trays4, kind6, isRun7, isClosed9, f0, f1, f2, f3, f4, f5, rfl, f7, f8, f9, f10, f11, f12, rfl, f14, f15, f16, rfl, f18, rfl, f20, T, K⟩ | ⟨trays4, kind6, isRun7, f0, f1, f2, f3, f4, rfl, f6, f7, f8, f9, f10, f11, rfl, f13, f14, f15, rfl, f17, T, K⟩ | ⟨trays4, kind6, f0, f1, f2, f3, rfl, f5, f6, f7, f8, f9, f10, rfl, f12, f13, f14, T, K⟩ | ⟨trays4, kind6, isRun7, thrownMany9, f0, f1, f2, f3, f4, f5, rfl, f7, f8, f9, f10, f11, f12, rfl, f14, f15, rfl, f17, f18, f19, f20, f21, f22, rfl, T, K⟩ | ⟨trays4, kind6, isRun7, grew9, f0, f1, f2, f3, f4, f5, rfl, f7, f8, f9, f10, f11, f12, rfl, f14, f15, rfl, f17, rfl, T, K⟩ | ⟨trays4, kind6, isRun7, moved9, f0, f1, f2, f3, f4, f5, rfl, f7, f8, f9, f10, f11, f12, rfl, f14, f15, rfl, f17, rfl, T, K⟩ | ⟨trays4, kind6, isRun7, f0, f1, f2, f3, f4, rfl, f6, f7, f8, f9, f10, f11, rfl, f13, f14, rfl, f16, T, lv, Hl, K⟩ | ⟨trays4, kind6, isRun7, f0, f1, f2, f3, f4, rfl, f6, f7, f8, f9, f10, f11, rfl, f13, f14, rfl, f16, T, K⟩ | ⟨trays4, kind6, f0, f1, f2, f3, rfl, f5, f6, f7, f8, f9, f10, rfl, f12, f13, T, K⟩
  all_goals first
    | exact pubF K (by omega) (Fq.refl h)
    | (obtain ⟨v, v1⟩ := c_about_l hT (tr := tr) (by omega) b_w 5 0 0 lv (by omega) (by omega) (by omega) Hl
       exact pubF (D := 3) (fun d hd => K d _ hd (v1 d hd)) (by omega) (Fq.refl h))
theorem fc_card {h : Hp} (hT : TInv h) (G : RG h) {tr i w : Int} (b_tr : -2147483648 ≤ tr ∧ tr ≤ 2147483647) (b_i : -2147483648 ≤ i ∧ i ≤ 2147483647) (b_w : -2147483648 ≤ w ∧ w ≤ 2147483647) : PubF h 186 4 [rv 31, iv tr, iv i, iv w] := by
  have b0 : 0 ≤ rd 31 0 h ∧ rd 31 0 h ≤ 6 := rdt_ok hT 31 0
  have b13 : 0 ≤ rd 31 13 h ∧ rd 31 13 h ≤ 1 := rdt_ok hT 31 13
  rcases s186 hT b_tr b_i b_w (LVs.self (fl_enter 4 [rv 31, iv tr, iv i, iv w])) with ⟨trays5, f0, f1, rfl, f3, f4, T, K⟩ | ⟨trays5, f0, f1, rfl, f3, f4, f5, T, K⟩ | ⟨trays5, f0, f1, f2, rfl, f4, f5, f6, f7, f8, T, K⟩ | ⟨trays5, f0, f1, f2, rfl, f4, f5, f6, f7, f8, f9, T, K⟩ | ⟨trays5, isRun6, f0, f1, f2, f3, rfl, f5, f6, f7, f8, f9, f10, rfl, f12, T, lv, Hl, K⟩ | ⟨trays5, isRun6, f0, f1, f2, f3, rfl, f5, f6, f7, f8, f9, f10, rfl, f12, T, K⟩
  · exact pubF K (by omega) (Fq.refl h)
  · exact pubF K (by omega) (Fq.refl h)
  · exact pubF K (by omega) (Fq.refl h)
  · exact pubF K (by omega) (Fq.refl h)
  · have I := G.2 (by omega)
    have z := c_sizeOf hT (t := tr) (by omega)
    have zb := szV_bd hT (t := tr) (by omega)
    have K0 := K
    rcases s186b hT (tr := tr) (by omega) b_i (w := w) (by omega) (v := szV h tr) zb (z := 0) (by omega) (i2 := i) b_i Hl with ⟨f0, f1, f2, T, K⟩ | ⟨f0, f1, f2, f3, T, K⟩ | ⟨f0, f1, f2, f3, f4, T, lv, Hl, K⟩
    · refine pubF (D := 8) (v := some (iv (-1))) (fun d hd => ?_) (by omega) (Fq.refl h)
      obtain ⟨d, rfl⟩ : ∃ d', d = d' + 1 := ⟨d - 1, by omega⟩
      exact K0 d _ _ _ (by omega) (z d (by omega)) (K (d + 1) (by omega))
    · refine pubF (D := 8) (v := some (iv (-1))) (fun d hd => ?_) (by omega) (Fq.refl h)
      obtain ⟨d, rfl⟩ : ∃ d', d = d' + 1 := ⟨d - 1, by omega⟩
      exact K0 d _ _ _ (by omega) (z d (by omega)) (K (d + 1) (by omega))
    · obtain ⟨v, v0, v1⟩ := c_cardOf hT I (t := tr) (i := i) (w := w) (by omega) (by omega) (by omega) (by omega)
      have K1 := K
      obtain ⟨g1, rfl, T, K⟩ := s186c hT (tr := tr) (by omega) (i := i) (by omega) (w := w) (by omega) (v := v) v0 Hl
      refine pubF (D := 9) (v := some (iv 1)) (fun d hd => ?_) (by omega) (((Fq.refl (Ks := []) (fs := [56]) h).putf 56 v rfl).wide rfl rfl)
      obtain ⟨d, rfl⟩ : ∃ d', d = d' + 1 := ⟨d - 1, by omega⟩
      exact K0 d _ _ _ (by omega) (z d (by omega)) (K1 d _ _ _ (by omega) (v1 d (by omega)) (K (d + 1) (by omega)))
  · exact pubF K (by omega) (Fq.refl h)
theorem fc_fits {h : Hp} (hT : TInv h) (G : RG h) {tr : Int} (b_tr : -2147483648 ≤ tr ∧ tr ≤ 2147483647) : PubF h 192 2 [rv 31, iv tr] := by
  have b0 : 0 ≤ rd 31 0 h ∧ rd 31 0 h ≤ 6 := rdt_ok hT 31 0
  have b13 : 0 ≤ rd 31 13 h ∧ rd 31 13 h ≤ 1 := rdt_ok hT 31 13
  rcases s192 hT b_tr (LVs.self (fl_enter 2 [rv 31, iv tr])) with ⟨trays3, f0, f1, rfl, f3, f4, T, K⟩ | ⟨trays3, f0, f1, rfl, f3, f4, f5, T, K⟩ | ⟨trays3, isRun4, f0, f1, f2, rfl, f4, f5, f6, rfl, f8, T, lv, Hl, K⟩ | ⟨trays3, isRun4, f0, f1, f2, rfl, f4, f5, f6, rfl, f8, T, K⟩
  · exact pubF K (by omega) (Fq.refl h)
  · exact pubF K (by omega) (Fq.refl h)
  · have I := G.2 (by omega)
    obtain ⟨v, h', u1, u2, F, u4, u5⟩ := c_fitsOf hT I (t := tr) (by omega)
    have K0 := K
    obtain ⟨T, K⟩ := s192r u2.1 b_tr (v := v) u4 Hl
    refine pubF (D := 10) (v := some (iv v)) (fun d hd => ?_) (by omega) (F.wide rfl rfl)
    obtain ⟨d, rfl⟩ : ∃ d', d = d' + 1 := ⟨d - 1, by omega⟩
    exact K0 d _ _ _ (by omega) (u1 d (by omega)) (K (d + 1) (by omega))
  · exact pubF K (by omega) (Fq.refl h)
theorem fc_order {h : Hp} (hT : TInv h) (G : RG h) {tr i : Int} (b_tr : -2147483648 ≤ tr ∧ tr ≤ 2147483647) (b_i : -2147483648 ≤ i ∧ i ≤ 2147483647) : PubF h 203 3 [rv 31, iv tr, iv i] := by
  have b0 : 0 ≤ rd 31 0 h ∧ rd 31 0 h ≤ 6 := rdt_ok hT 31 0
  have b13 : 0 ≤ rd 31 13 h ∧ rd 31 13 h ≤ 1 := rdt_ok hT 31 13
  rcases s203 hT b_tr b_i (LVs.self (fl_enter 3 [rv 31, iv tr, iv i])) with ⟨trays4, f0, f1, rfl, f3, f4, T, K⟩ | ⟨trays4, f0, f1, rfl, f3, f4, f5, T, K⟩ | ⟨trays4, isRun5, f0, f1, f2, rfl, f4, f5, f6, rfl, f8, T, lv, Hl, K⟩ | ⟨trays4, isRun5, f0, f1, f2, rfl, f4, f5, f6, rfl, f8, T, K⟩
  · exact pubF K (by omega) (Fq.refl h)
  · exact pubF K (by omega) (Fq.refl h)
  · have I := G.2 (by omega)
    obtain ⟨v, h', u1, u2, F, u4, u5⟩ := c_fitsOf hT I (t := tr) (by omega)
    have K0 := K
    rcases s203b u2.1 b_tr b_i (v := v) u4 Hl with ⟨f0, f1, T, K⟩ | ⟨takenMany5, f0, f1, f2, rfl, f4⟩ | ⟨takenMany5, f0, f1, f2, f3, rfl, f5, f6, T, K⟩ | ⟨takenMany5, f0, f1, f2, f3, rfl, f5, f6, f7, T, K⟩ | ⟨takenMany5, placed8, taken9, f0, f1, f2, f3, f4, f5, rfl, f7, f8, f9, rfl, rfl, T, K⟩
    all_goals first | (exfalso; have := u5 (by omega); omega) | skip
    all_goals exact pubF1 (D := 9) (fun d hd => K0 d _ _ _ (by omega) (u1 d (by omega)) (K (d + 1) (by omega))) (by omega) (F.wide rfl rfl)
  · exact pubF K (by omega) (Fq.refl h)
theorem fc_first {h : Hp} (hT : TInv h) (G : RG h) : PubF h 205 2 [rv 31] := by
  have b13 : 0 ≤ rd 31 13 h ∧ rd 31 13 h ≤ 1 := rdt_ok hT 31 13
  rcases s205 hT (LVs.self (fl_enter 2 [rv 31])) with ⟨isRun2, f0, rfl, f2, T, lv, Hl, K⟩ | ⟨isRun2, f0, rfl, f2, T, K⟩
  · obtain ⟨w, h', z1, z2, z3⟩ := c_first_l 7 0 lv h hT (G.2 (by omega)) (by omega) (by omega) Hl
    exact pubF (D := 10) (fun d hd => K d _ (by omega) (z1 d hd)) (by omega) (z3.wide rfl rfl)
  · exact pubF K (by omega) (Fq.refl h)
theorem fc_explore {h : Hp} (hT : TInv h) (G : RG h) {most : Int} (b_most : -2147483648 ≤ most ∧ most ≤ 2147483647) : PubF h 206 7 [rv 31, iv most] := by
  rcases s206 hT b_most (LVs.self (fl_enter 7 [rv 31, iv most])) with ⟨f0, f1, f2, T, K⟩ | ⟨f0, f1, f2, f3, T, K⟩ | ⟨gone3, n4, f0, f1, f2, f3, f4, f5, rfl, rfl, f8, T, lv, Hl, K⟩ | ⟨gone3, n4, f0, f1, f2, f3, f4, f5, rfl, rfl, f8, T, K⟩
  · exact pubF K (by omega) (Fq.refl h)
  · exact pubF K (by omega) (Fq.refl h)
  · have b_m : 1 ≤ most ∧ most ≤ 60 := by omega
    have K0 := K
    obtain ⟨h1, l1, u1, u2, u3, u4⟩ := c_ex_a b_m 6 0 lv h hT (by omega) (by omega) Hl
    obtain ⟨h2, l2, fo, runs, more, y1, y2, y3, y4, y5, y6, y7, y8, y9⟩ := c_ex_l (b := h1) b_m 61 0 0 1 l1 h1 u3.1 (G.1.fr u4 rfl) (Fq.refl h1) (by omega) (by omega) (by omega) (by omega) (by omega) (fun _ i hi => by omega) u1
    have e74 : rd 31 74 h2 = rd 31 74 h := (y9.f 74 rfl).trans (u4.f 74 rfl)
    have b74 : 0 ≤ rd 31 74 h2 ∧ rd 31 74 h2 ≤ 1000 := rdt_ok y7.1 31 74
    have fin : ∀ {v w : Int} {lv : List (Option Value)}, Nx h2 (wr 31 74 w (wr 81 0 v h2)) → LVs [some (rv 31), some (iv most), some (iv fo), some (iv runs), some (iv more), none, none] lv → (∀ d vv hh rr, 2 ≤ d → Ev d 153 (0, fl_enter 3 [rv 31], [], wr 31 74 w (wr 81 0 v h2), fl_tot) (vv, hh, fl_tot) → Ev (d + 1) 206 (273, lv, vv.toList ++ [], hh, fl_tot) rr → Ev (d + 1) 206 (243, l2, [], h2, fl_tot) rr) → PubF h 206 7 [rv 31, iv most] := fun {v w lv} T Hl K1 => by
      have x := ((Fq.refl (Ks := [81]) (fs := [74]) h2).put 81 0 v rfl).putf 74 w rfl
      obtain ⟨z, h3, r1, r2, r3, r4, r5⟩ := c_run T.1 (y8.fr x rfl)
      obtain ⟨z', b_z, ez⟩ := iv_norm z
      rw [ez] at r1
      have T0 := T
      obtain ⟨T, K⟩ := s206o r2.1 b_m y1 y2 y4 (v := z') b_z Hl
      refine pubF (D := 12) (v := some (iv runs)) (fun d hd => ?_) (by omega) ((u4.wide rfl rfl).trans ((y9.wide rfl rfl).trans ((x.wide rfl rfl).trans (r4.wide rfl rfl))))
      obtain ⟨d, rfl⟩ : ∃ d', d = d' + 1 := ⟨d - 1, by omega⟩
      exact K0 (d + 1) _ (by omega) (u2 (d + 1) _ (by omega) (y6 (d + 1) _ (by omega) (K1 d _ _ _ (by omega) (r1 d (by omega)) (K (d + 1) (by omega)))))
    rcases s206n y7.1 b_m y1 y2 y4 y5 with ⟨gone7, n8, g1, rfl, f0, f1, f2, f3, rfl, rfl, f6⟩ | ⟨gone7, n8, g1, g2, rfl, rfl, f0, f1, f2, f3, rfl, rfl, T, lv, Hl, K⟩ | ⟨gone7, n8, g1, rfl, f0, f1, f2, f3, rfl, rfl, f6⟩ | ⟨gone7, n8, g1, g2, rfl, rfl, f0, f1, f2, f3, rfl, rfl, T, lv, Hl, K⟩
    all_goals first | (exfalso; omega) | skip
    · exact fin T Hl (fun d vv hh rr hd e1 e2 => K d vv hh rr (by omega) e1 e2)
    · exact fin T Hl (fun d vv hh rr hd e1 e2 => K d vv hh rr (by omega) e1 e2)
  · exact pubF K (by omega) (Fq.refl h)
theorem fc_digest {h : Hp} (hT : TInv h) (G : RG h) : PubF h 212 6 [rv 31] := by
  by_cases hb : h.1 (xc 31) 13 = 0
  · refine pubF (D := 0) (v := some (.long (Int64.ofInt 0))) (fun d hd => ?_) (by omega) (Fq.refl h)
    refine dg_0r hT hb ?_
    exact Ev.ret (q := (23, [], 9)) (c := (8, [some (rv 31), none, none, none, none, none], [.long (Int64.ofInt 0)], h, fl_tot)) (show fl_code 212 8 = some (23, [], 9) by decide +kernel) rfl
  · have b13 : 0 ≤ rd 31 13 h ∧ rd 31 13 h ≤ 1 := rdt_ok hT 31 13
    have h1 : rd 31 13 h = 1 := by
      have : rd 31 13 h ≠ 0 := fun z => hb (by
        have z' : (h.1 (xc 31) 13).toInt = 0 := z
        rw [← Int32.ofInt_toInt (h.1 (xc 31) 13), z']
        rfl)
      omega
    obtain ⟨y, hy⟩ := c_dg_c hT (G.2 h1) 6 0 (Int64.ofInt 7) none none (by omega) (by omega)
    exact pubF (D := 10) (fun d hd => dg_0 hT hb (hy d hd)) (by omega) (Fq.refl h)
theorem fp_run {h : Hp} (hT : TInv h) (G : RG h) : PubF h 153 3 [rv 31] := by
  obtain ⟨v, h', r1, r2, r3, r4, r5⟩ := c_run hT G.1
  exact pubF r1 (by omega) (r4.wide rfl rfl)
