
set_option maxRecDepth 20000
/-! WHAT A RUN LEFT, AND WHO LEAVES IT ALONE -/
abbrev oKs : List Nat := [82, 83, 84, 85, 86, 87, 88, 89, 90, 91, 92]
abbrev oFs : List Int := [56, 57, 60, 64, 68, 69]
def PubG (h : Hp) (m nL : Nat) (as : List Value) : Prop := ∃ v h', (∀ d, 14 ≤ d → Ev d m (0, fl_enter nL as, [], h, fl_tot) (v, h', fl_tot)) ∧ Fq oKs oFs h h'
theorem pubG {h : Hp} {m nL : Nat} {as : List Value} {v : Option Value} {h' : Hp} {D : Nat} (K : ∀ d, D ≤ d → Ev d m (0, fl_enter nL as, [], h, fl_tot) (v, h', fl_tot)) (hD : D ≤ 14) (F : Fq oKs oFs h h') : PubG h m nL as := ⟨v, h', fun d hd => K d (by omega), F⟩
theorem pubG1 {h : Hp} {m nL : Nat} {as : List Value} {v : Option Value} {h' : Hp} {D : Nat} (K : ∀ d, D ≤ d → Ev (d + 1) m (0, fl_enter nL as, [], h, fl_tot) (v, h', fl_tot)) (hD : D ≤ 13) (F : Fq oKs oFs h h') : PubG h m nL as := pubG (D := D + 1) (fun d hd => by
  obtain ⟨d, rfl⟩ : ∃ d', d = d' + 1 := ⟨d - 1, by omega⟩
  exact K d (by omega)) (by omega) F
theorem gc_answer {h : Hp} (hT : TInv h) (G : RG h) {cl ac : Int} (b_cl : -2147483648 ≤ cl ∧ cl ≤ 2147483647) (b_ac : -2147483648 ≤ ac ∧ ac ≤ 2147483647) : PubG h 179 3 [rv 31, iv cl, iv ac] := by
  rcases s179 hT b_cl b_ac (LVs.self (fl_enter 3 [rv 31, iv cl, iv ac])) with ⟨clerks4, f0, f1, rfl, f3, f4, f5, T, K⟩ | ⟨clerks4, f0, f1, rfl, f3, f4, f5, f6, T, K⟩ | ⟨clerks4, f0, f1, f2, rfl, f4, f5, f6, f7, f8, T, K⟩ | ⟨clerks4, acts6, f0, f1, f2, f3, rfl, f5, f6, f7, f8, rfl, f10, f11, T, K⟩ | ⟨clerks4, acts6, isRun7, f0, f1, f2, f3, f4, rfl, f6, f7, f8, f9, rfl, f11, f12, rfl, f14, T, K⟩ | ⟨clerks4, acts6, isRun7, n9, n10, answers11, f0, f1, f2, f3, f4, f5, f6, f7, rfl, f9, f10, f11, f12, rfl, f14, f15, rfl, f17, rfl, rfl, rfl, T, K⟩
  all_goals exact pubG K (by omega) (Fq.refl h)
theorem gc_outcome {h : Hp} (hT : TInv h) (G : RG h) {cl ac : Int} (b_cl : -2147483648 ≤ cl ∧ cl ≤ 2147483647) (b_ac : -2147483648 ≤ ac ∧ ac ≤ 2147483647) : PubG h 180 3 [rv 31, iv cl, iv ac] := by
  rcases s180 hT b_cl b_ac (LVs.self (fl_enter 3 [rv 31, iv cl, iv ac])) with ⟨clerks4, f0, f1, rfl, f3, f4, f5, T, K⟩ | ⟨clerks4, f0, f1, rfl, f3, f4, f5, f6, T, K⟩ | ⟨clerks4, f0, f1, f2, rfl, f4, f5, f6, f7, f8, T, K⟩ | ⟨clerks4, acts6, f0, f1, f2, f3, rfl, f5, f6, f7, f8, rfl, f10, f11, T, K⟩ | ⟨clerks4, acts6, isRun7, n9, n10, outcomes11, f0, f1, f2, f3, f4, f5, f6, f7, rfl, f9, f10, f11, f12, rfl, f14, f15, rfl, f17, rfl, rfl, rfl, T, K⟩ | ⟨clerks4, acts6, isRun7, f0, f1, f2, f3, f4, rfl, f6, f7, f8, f9, rfl, f11, f12, rfl, f14, T, K⟩
  all_goals exact pubG K (by omega) (Fq.refl h)
theorem gc_waited {h : Hp} (hT : TInv h) (G : RG h) {cl ac : Int} (b_cl : -2147483648 ≤ cl ∧ cl ≤ 2147483647) (b_ac : -2147483648 ≤ ac ∧ ac ≤ 2147483647) : PubG h 181 3 [rv 31, iv cl, iv ac] := by
  rcases s181 hT b_cl b_ac (LVs.self (fl_enter 3 [rv 31, iv cl, iv ac])) with ⟨clerks4, f0, f1, rfl, f3, f4, f5, T, K⟩ | ⟨clerks4, f0, f1, rfl, f3, f4, f5, f6, T, K⟩ | ⟨clerks4, f0, f1, f2, rfl, f4, f5, f6, f7, f8, T, K⟩ | ⟨clerks4, acts6, f0, f1, f2, f3, rfl, f5, f6, f7, f8, rfl, f10, f11, T, K⟩ | ⟨clerks4, acts6, isRun7, n9, n10, waits11, f0, f1, f2, f3, f4, f5, f6, f7, rfl, f9, f10, f11, f12, rfl, f14, f15, rfl, f17, rfl, rfl, rfl, T, K⟩ | ⟨clerks4, acts6, isRun7, f0, f1, f2, f3, f4, rfl, f6, f7, f8, f9, rfl, f11, f12, rfl, f14, T, K⟩
  all_goals exact pubG K (by omega) (Fq.refl h)
theorem gc_mark {h : Hp} (hT : TInv h) (G : RG h) {i w : Int} (b_i : -2147483648 ≤ i ∧ i ≤ 2147483647) (b_w : -2147483648 ≤ w ∧ w ≤ 2147483647) : PubG h 182 3 [rv 31, iv i, iv w] := by
  rcases s182 hT b_i b_w (LVs.self (fl_enter 3 [rv 31, iv i, iv w])) with ⟨f0, f1, f2, T, K⟩ | ⟨f0, f1, f2, f3, T, K⟩ | ⟨isRun4, marks5, f0, f1, f2, f3, f4, f5, f6, rfl, f8, rfl, f10, f11, T, K⟩ | ⟨isRun4, marks5, f0, f1, f2, f3, f4, f5, f6, rfl, f8, rfl, f10, f11, f12, T, K⟩ | ⟨isRun4, marks5, markSteps7, f0, f1, f2, f3, f4, f5, f6, f7, rfl, f9, rfl, f11, f12, f13, f14, f15, f16, rfl, T, K⟩ | ⟨isRun4, marks5, markEnds7, f0, f1, f2, f3, f4, f5, f6, f7, rfl, f9, rfl, f11, f12, f13, f14, f15, f16, rfl, f18, T, K⟩ | ⟨isRun4, marks5, markEnds7, f0, f1, f2, f3, f4, f5, f6, f7, rfl, f9, rfl, f11, f12, f13, f14, f15, f16, rfl, f18, T, K⟩ | ⟨isRun4, marks5, markAct7, n8, f0, f1, f2, f3, f4, f5, f6, f7, f8, rfl, f10, rfl, f12, f13, f14, f15, f16, rfl, rfl, T, K⟩ | ⟨isRun4, marks5, markAct7, n8, f0, f1, f2, f3, f4, f5, f6, f7, f8, rfl, f10, rfl, f12, f13, f14, f15, rfl, rfl, T, K⟩ | ⟨isRun4, f0, f1, f2, f3, f4, rfl, f6, T, K⟩
  all_goals exact pubG K (by omega) (Fq.refl h)
theorem gc_asked {h : Hp} (hT : TInv h) (G : RG h) : PubG h 190 1 [rv 31] := by
  rcases s190 hT  (LVs.self (fl_enter 1 [rv 31])) with ⟨asked2, f0, rfl, T, K⟩
  all_goals exact pubG K (by omega) (Fq.refl h)
theorem gc_tries {h : Hp} (hT : TInv h) (G : RG h) : PubG h 204 1 [rv 31] := by
  rcases s204 hT  (LVs.self (fl_enter 1 [rv 31])) with ⟨tries2, f0, rfl, T, K⟩
  all_goals exact pubG K (by omega) (Fq.refl h)
theorem gc_explored {h : Hp} (hT : TInv h) (G : RG h) {w : Int} (b_w : -2147483648 ≤ w ∧ w ≤ 2147483647) : PubG h 211 2 [rv 31, iv w] := by
  rcases s211 hT b_w (LVs.self (fl_enter 2 [rv 31, iv w])) with ⟨f0, f1, f2, T, K⟩ | ⟨f0, f1, f2, f3, T, K⟩ | ⟨explored4, f0, f1, f2, f3, f4, rfl, T, K⟩
  all_goals exact pubG K (by omega) (Fq.refl h)
theorem gp_count {h : Hp} (hT : TInv h) (G : RG h) {w : Int} (b_w : -2147483648 ≤ w ∧ w ≤ 2147483647) : PubG h 183 4 [rv 31, iv w] := by
  obtain ⟨v, -, v1⟩ := c_count hT b_w
  exact pubG v1 (by omega) (Fq.refl h)
theorem gp_size {h : Hp} (hT : TInv h) (G : RG h) {tr : Int} (b_tr : -2147483648 ≤ tr ∧ tr ≤ 2147483647) : PubG h 184 2 [rv 31, iv tr] := by
  have b0 : 0 ≤ rd 31 0 h ∧ rd 31 0 h ≤ 6 := rdt_ok hT 31 0
  rcases s184 hT b_tr (LVs.self (fl_enter 2 [rv 31, iv tr])) with ⟨trays3, f0, f1, rfl, f3, f4, T, K⟩ | ⟨trays3, f0, f1, rfl, f3, f4, f5, T, K⟩ | ⟨trays3, isRun4, f0, f1, f2, rfl, f4, f5, f6, rfl, f8, T, lv, Hl, K⟩ | ⟨trays3, isRun4, f0, f1, f2, rfl, f4, f5, f6, rfl, f8, T, K⟩
  · exact pubG K (by omega) (Fq.refl h)
  · exact pubG K (by omega) (Fq.refl h)
  · have z := c_sizeOf hT (t := tr) (by omega)
    have zb := szV_bd hT (t := tr) (by omega)
    have K0 := K
    obtain ⟨T, K⟩ := s184r hT b_tr (v := szV h tr) (by omega) Hl
    refine pubG (D := 4) (v := some (iv (szV h tr))) (fun d hd => ?_) (by omega) (Fq.refl h)
    obtain ⟨d, rfl⟩ : ∃ d', d = d' + 1 := ⟨d - 1, by omega⟩
    exact K0 d _ _ _ (by omega) (z d (by omega)) (K (d + 1) (by omega))
  · exact pubG K (by omega) (Fq.refl h)
theorem gc_about {h : Hp} (hT : TInv h) (G : RG h) {tr w : Int} (b_tr : -2147483648 ≤ tr ∧ tr ≤ 2147483647) (b_w : -2147483648 ≤ w ∧ w ≤ 2147483647) : PubG h 191 5 [rv 31, iv tr, iv w] := by
  have b0 : 0 ≤ rd 31 0 h ∧ rd 31 0 h ≤ 6 := rdt_ok hT 31 0
  rcases s191 hT b_tr b_w (LVs.self (fl_enter 5 [rv 31, iv tr, iv w])) with ⟨trays4, f0, f1, rfl, f3, f4, T, K⟩ | ⟨trays4, f0, f1, rfl, f3, f4, f5, T, K⟩ | ⟨trays4, f0, f1, f2, rfl, f4, f5, f6, f7, f8, T, K⟩ | ⟨trays4, f0, f1, f2, rfl, f4, f5, f6, f7, f8, f9, T, K⟩ | ⟨trays4, kind6, isRun7, thrownMany9, f0, f1, f2, f3, f4, f5, rfl, f7, f8, f9, f10, f11, f12, rfl, f14, f15, f16, rfl, f18, f19, f20, f21, f22, f23, rfl, T, K⟩ | ⟨trays4, kind6, isRun7, began9, f0, f1, f2, f3, f4, f5, rfl, f7, f8, f9, f10, f11, f12, rfl, f14, f15, f16, rfl, f18, rfl, T, K⟩ | ⟨trays4, kind6, isRun7, f0, f1, f2, f3, f4, rfl, f6, f7, f8, f9, f10, f11, rfl, f13, f14, f15, rfl, f17, T, K⟩ | ⟨trays4, kind6, f0, f1, f2, f3, rfl, f5, f6, f7, f8, f9, f10, rfl, f12, f13, f14, T, K⟩ | ⟨trays4, kind6, isRun7, thrownMany9, f0, f1, f2, f3, f4, f5, rfl, f7, f8, f9, f10, f11, f12, rfl, f14, f15, f16, rfl, f18, f19, f20, f21, f22, f23, rfl, T, K⟩ | ⟨trays4, kind6, isRun7, isClosed9, f0, f1, f2, f3, f4, f5, rfl, f7, f8, f9, f10, f11, f12, rfl, f14, f15, f16, rfl, f18, rfl, f20, T, K⟩ | ⟨trays4, kind6, isRun7, isClosed9, f0, f1, f2, f3, f4, f5, rfl, f7, f8, f9, f10, f11, f12, rfl, f14, f15, f16, rfl, f18, rfl, f20, T, K⟩ | ⟨trays4, kind6, isRun7, f0, f1, f2, f3, f4, rfl, f6, f7, f8, f9, f10, f11, rfl, f13, f14, f15, rfl, f17, T, K⟩ | ⟨trays4, kind6, f0, f1, f2, f3, rfl, f5, f6, f7, f8, f9, f10, rfl, f12, f13, f14, T, K⟩ | ⟨trays4, kind6, isRun7, thrownMany9, f0, f1, f2, f3, f4, f5, rfl, f7, f8, f9, f10, f11, f12, rfl, f14, f15, rfl, f17, f18, f19, f20, f21, f22, rfl, T, K⟩ | ⟨trays4, kind6, isRun7, grew9, f0, f1, f2, f3, f4, f5, rfl, f7, f8, f9, f10, f11, f12, rfl, f14, f15, rfl, f17, rfl, T, K⟩ | ⟨trays4, kind6, isRun7, moved9, f0, f1, f2, f3, f4, f5, rfl, f7, f8, f9, f10, f11, f12, rfl, f14, f15, rfl, f17, rfl, T, K⟩ | ⟨trays4, kind6, isRun7, f0, f1, f2, f3, f4, rfl, f6, f7, f8, f9, f10, f11, rfl, f13, f14, rfl, f16, T, lv, Hl, K⟩ | ⟨trays4, kind6, isRun7, f0, f1, f2, f3, f4, rfl, f6, f7, f8, f9, f10, f11, rfl, f13, f14, rfl, f16, T, K⟩ | ⟨trays4, kind6, f0, f1, f2, f3, rfl, f5, f6, f7, f8, f9, f10, rfl, f12, f13, T, K⟩
  all_goals first
    | exact pubG K (by omega) (Fq.refl h)
    | (obtain ⟨v, v1⟩ := c_about_l hT (tr := tr) (by omega) b_w 5 0 0 lv (by omega) (by omega) (by omega) Hl
       exact pubG (D := 3) (fun d hd => K d _ hd (v1 d hd)) (by omega) (Fq.refl h))
theorem gc_card {h : Hp} (hT : TInv h) (G : RG h) {tr i w : Int} (b_tr : -2147483648 ≤ tr ∧ tr ≤ 2147483647) (b_i : -2147483648 ≤ i ∧ i ≤ 2147483647) (b_w : -2147483648 ≤ w ∧ w ≤ 2147483647) : PubG h 186 4 [rv 31, iv tr, iv i, iv w] := by
  have b0 : 0 ≤ rd 31 0 h ∧ rd 31 0 h ≤ 6 := rdt_ok hT 31 0
  have b13 : 0 ≤ rd 31 13 h ∧ rd 31 13 h ≤ 1 := rdt_ok hT 31 13
  rcases s186 hT b_tr b_i b_w (LVs.self (fl_enter 4 [rv 31, iv tr, iv i, iv w])) with ⟨trays5, f0, f1, rfl, f3, f4, T, K⟩ | ⟨trays5, f0, f1, rfl, f3, f4, f5, T, K⟩ | ⟨trays5, f0, f1, f2, rfl, f4, f5, f6, f7, f8, T, K⟩ | ⟨trays5, f0, f1, f2, rfl, f4, f5, f6, f7, f8, f9, T, K⟩ | ⟨trays5, isRun6, f0, f1, f2, f3, rfl, f5, f6, f7, f8, f9, f10, rfl, f12, T, lv, Hl, K⟩ | ⟨trays5, isRun6, f0, f1, f2, f3, rfl, f5, f6, f7, f8, f9, f10, rfl, f12, T, K⟩
  · exact pubG K (by omega) (Fq.refl h)
  · exact pubG K (by omega) (Fq.refl h)
  · exact pubG K (by omega) (Fq.refl h)
  · exact pubG K (by omega) (Fq.refl h)
  · have I := G.2 (by omega)
    have z := c_sizeOf hT (t := tr) (by omega)
    have zb := szV_bd hT (t := tr) (by omega)
    have K0 := K
    rcases s186b hT (tr := tr) (by omega) b_i (w := w) (by omega) (v := szV h tr) zb (z := 0) (by omega) (i2 := i) b_i Hl with ⟨f0, f1, f2, T, K⟩ | ⟨f0, f1, f2, f3, T, K⟩ | ⟨f0, f1, f2, f3, f4, T, lv, Hl, K⟩
    · refine pubG (D := 8) (v := some (iv (-1))) (fun d hd => ?_) (by omega) (Fq.refl h)
      obtain ⟨d, rfl⟩ : ∃ d', d = d' + 1 := ⟨d - 1, by omega⟩
      exact K0 d _ _ _ (by omega) (z d (by omega)) (K (d + 1) (by omega))
    · refine pubG (D := 8) (v := some (iv (-1))) (fun d hd => ?_) (by omega) (Fq.refl h)
      obtain ⟨d, rfl⟩ : ∃ d', d = d' + 1 := ⟨d - 1, by omega⟩
      exact K0 d _ _ _ (by omega) (z d (by omega)) (K (d + 1) (by omega))
    · obtain ⟨v, v0, v1⟩ := c_cardOf hT I (t := tr) (i := i) (w := w) (by omega) (by omega) (by omega) (by omega)
      have K1 := K
      obtain ⟨g1, rfl, T, K⟩ := s186c hT (tr := tr) (by omega) (i := i) (by omega) (w := w) (by omega) (v := v) v0 Hl
      refine pubG (D := 9) (v := some (iv 1)) (fun d hd => ?_) (by omega) (((Fq.refl (Ks := []) (fs := [56]) h).putf 56 v rfl).wide rfl rfl)
      obtain ⟨d, rfl⟩ : ∃ d', d = d' + 1 := ⟨d - 1, by omega⟩
      exact K0 d _ _ _ (by omega) (z d (by omega)) (K1 d _ _ _ (by omega) (v1 d (by omega)) (K (d + 1) (by omega)))
  · exact pubG K (by omega) (Fq.refl h)
theorem gc_fits {h : Hp} (hT : TInv h) (G : RG h) {tr : Int} (b_tr : -2147483648 ≤ tr ∧ tr ≤ 2147483647) : PubG h 192 2 [rv 31, iv tr] := by
  have b0 : 0 ≤ rd 31 0 h ∧ rd 31 0 h ≤ 6 := rdt_ok hT 31 0
  have b13 : 0 ≤ rd 31 13 h ∧ rd 31 13 h ≤ 1 := rdt_ok hT 31 13
  rcases s192 hT b_tr (LVs.self (fl_enter 2 [rv 31, iv tr])) with ⟨trays3, f0, f1, rfl, f3, f4, T, K⟩ | ⟨trays3, f0, f1, rfl, f3, f4, f5, T, K⟩ | ⟨trays3, isRun4, f0, f1, f2, rfl, f4, f5, f6, rfl, f8, T, lv, Hl, K⟩ | ⟨trays3, isRun4, f0, f1, f2, rfl, f4, f5, f6, rfl, f8, T, K⟩
  · exact pubG K (by omega) (Fq.refl h)
  · exact pubG K (by omega) (Fq.refl h)
  · have I := G.2 (by omega)
    obtain ⟨v, h', u1, u2, F, u4, u5⟩ := c_fitsOf hT I (t := tr) (by omega)
    have K0 := K
    obtain ⟨T, K⟩ := s192r u2.1 b_tr (v := v) u4 Hl
    refine pubG (D := 10) (v := some (iv v)) (fun d hd => ?_) (by omega) (F.wide rfl rfl)
    obtain ⟨d, rfl⟩ : ∃ d', d = d' + 1 := ⟨d - 1, by omega⟩
    exact K0 d _ _ _ (by omega) (u1 d (by omega)) (K (d + 1) (by omega))
  · exact pubG K (by omega) (Fq.refl h)
theorem gc_order {h : Hp} (hT : TInv h) (G : RG h) {tr i : Int} (b_tr : -2147483648 ≤ tr ∧ tr ≤ 2147483647) (b_i : -2147483648 ≤ i ∧ i ≤ 2147483647) : PubG h 203 3 [rv 31, iv tr, iv i] := by
  have b0 : 0 ≤ rd 31 0 h ∧ rd 31 0 h ≤ 6 := rdt_ok hT 31 0
  have b13 : 0 ≤ rd 31 13 h ∧ rd 31 13 h ≤ 1 := rdt_ok hT 31 13
  rcases s203 hT b_tr b_i (LVs.self (fl_enter 3 [rv 31, iv tr, iv i])) with ⟨trays4, f0, f1, rfl, f3, f4, T, K⟩ | ⟨trays4, f0, f1, rfl, f3, f4, f5, T, K⟩ | ⟨trays4, isRun5, f0, f1, f2, rfl, f4, f5, f6, rfl, f8, T, lv, Hl, K⟩ | ⟨trays4, isRun5, f0, f1, f2, rfl, f4, f5, f6, rfl, f8, T, K⟩
  · exact pubG K (by omega) (Fq.refl h)
  · exact pubG K (by omega) (Fq.refl h)
  · have I := G.2 (by omega)
    obtain ⟨v, h', u1, u2, F, u4, u5⟩ := c_fitsOf hT I (t := tr) (by omega)
    have K0 := K
    rcases s203b u2.1 b_tr b_i (v := v) u4 Hl with ⟨f0, f1, T, K⟩ | ⟨takenMany5, f0, f1, f2, rfl, f4⟩ | ⟨takenMany5, f0, f1, f2, f3, rfl, f5, f6, T, K⟩ | ⟨takenMany5, f0, f1, f2, f3, rfl, f5, f6, f7, T, K⟩ | ⟨takenMany5, placed8, taken9, f0, f1, f2, f3, f4, f5, rfl, f7, f8, f9, rfl, rfl, T, K⟩
    all_goals first | (exfalso; have := u5 (by omega); omega) | skip
    all_goals exact pubG1 (D := 9) (fun d hd => K0 d _ _ _ (by omega) (u1 d (by omega)) (K (d + 1) (by omega))) (by omega) (F.wide rfl rfl)
  · exact pubG K (by omega) (Fq.refl h)
theorem gc_first {h : Hp} (hT : TInv h) (G : RG h) : PubG h 205 2 [rv 31] := by
  have b13 : 0 ≤ rd 31 13 h ∧ rd 31 13 h ≤ 1 := rdt_ok hT 31 13
  rcases s205 hT (LVs.self (fl_enter 2 [rv 31])) with ⟨isRun2, f0, rfl, f2, T, lv, Hl, K⟩ | ⟨isRun2, f0, rfl, f2, T, K⟩
  · obtain ⟨w, h', z1, z2, z3⟩ := c_first_l 7 0 lv h hT (G.2 (by omega)) (by omega) (by omega) Hl
    exact pubG (D := 10) (fun d hd => K d _ (by omega) (z1 d hd)) (by omega) (z3.wide rfl rfl)
  · exact pubG K (by omega) (Fq.refl h)
theorem gc_digest {h : Hp} (hT : TInv h) (G : RG h) : PubG h 212 6 [rv 31] := by
  by_cases hb : h.1 (xc 31) 13 = 0
  · refine pubG (D := 0) (v := some (.long (Int64.ofInt 0))) (fun d hd => ?_) (by omega) (Fq.refl h)
    refine dg_0r hT hb ?_
    exact Ev.ret (q := (23, [], 9)) (c := (8, [some (rv 31), none, none, none, none, none], [.long (Int64.ofInt 0)], h, fl_tot)) (show fl_code 212 8 = some (23, [], 9) by decide +kernel) rfl
  · have b13 : 0 ≤ rd 31 13 h ∧ rd 31 13 h ≤ 1 := rdt_ok hT 31 13
    have h1 : rd 31 13 h = 1 := by
      have : rd 31 13 h ≠ 0 := fun z => hb (by
        have z' : (h.1 (xc 31) 13).toInt = 0 := z
        rw [← Int32.ofInt_toInt (h.1 (xc 31) 13), z']
        rfl)
      omega
    obtain ⟨y, hy⟩ := c_dg_c hT (G.2 h1) 6 0 (Int64.ofInt 7) none none (by omega) (by omega)
    exact pubG (D := 10) (fun d hd => dg_0 hT hb (hy d hd)) (by omega) (Fq.refl h)
def PVG (m nL k : Nat) : Prop := ∀ h : Hp, TInv h → RG h → ∀ vs : List Int32, vs.length = k → PubG h m nL (rv 31 :: vs.map Value.int)
/-- what a run left is alike on both sides -/
def RP (h : Hp) : Prop := (∃ st : Nat, st ≤ 600 ∧ h.1 208 5 = Int32.ofNat st ∧ h.1 223 15 = Int32.ofNat st) ∧ h.1 208 4 = h.1 223 16 ∧ ∀ c : Nat, c < qc h → (∃ i : Nat, h.1 (148 + 12 * c) 4 = Int32.ofNat i ∧ i ≤ qm h c ∧ (i < qm h c → h.1 (152 + 12 * c + i) 10 = h.1 245 c) ∧ (i = qm h c → h.1 245 c = Int32.ofInt 0)) ∧ ∀ j : Nat, j < qm h c → h.1 (152 + 12 * c + j) 15 = h.1 239 (8 * c + j) ∧ h.1 (152 + 12 * c + j) 16 = h.1 238 (8 * c + j) ∧ h.1 (152 + 12 * c + j) 12 = h.1 240 (8 * c + j)
def RO (h : Hp) : Prop := h.1 0 5 = h.1 223 13 ∧ h.1 218 7 = h.1 223 74 ∧ ((h.1 223 13).toInt ≠ 0 → RP h)
def LJ (h : Hp) : Prop := LI h ∧ RO h
theorem q5c {h : Hp} (hT : TInv h) : qc h ≤ 5 ∧ ∀ c : Nat, c < 5 → qm h c ≤ 8 := by
  refine ⟨(qt_i hT).2.2.1, fun c hc => ?_⟩
  have b8 := TI_mm hT hc
  have b9 := lc_clamp b8.1
  show (h.1 227 c).toNatClampNeg ≤ 8
  omega
theorem RP.fr {h h' : Hp} (hT : TInv h) (P : RP h) (x : ∀ r j : Nat, (r = 208 ∧ (j = 4 ∨ j = 5)) ∨ (148 ≤ r ∧ r < 208) → h'.1 r j = h.1 r j) (m : ∀ K j : Nat, (K = 223 ∧ (j = 4 ∨ j = 15 ∨ j = 16)) ∨ K = 227 ∨ (238 ≤ K ∧ K ≤ 245) → h'.1 K j = h.1 K j) : RP h' := by
  obtain ⟨⟨st, p1, p2, p3⟩, p4, p5⟩ := P
  have e1 : qc h' = qc h := by unfold qc; rw [m 223 4 (by omega)]
  have e2 : ∀ c, qm h' c = qm h c := fun c => by unfold qm; rw [m 227 c (by omega)]
  obtain ⟨c5, m8⟩ := q5c hT
  refine ⟨⟨st, p1, by rw [x 208 5 (by omega)]; exact p2, by rw [m 223 15 (by omega)]; exact p3⟩, by rw [x 208 4 (by omega), m 223 16 (by omega)]; exact p4, fun c hc => ?_⟩
  rw [e1] at hc
  rw [e2 c]
  have q8 := m8 c (by omega)
  obtain ⟨⟨i, a1, a2, a3, a4⟩, a5⟩ := p5 c hc
  refine ⟨⟨i, by rw [x _ _ (by omega)]; exact a1, a2, fun z => ?_, fun z => ?_⟩, fun j hj => ?_⟩
  · rw [x _ _ (by omega), m 245 c (by omega)]; exact a3 z
  · rw [m 245 c (by omega)]; exact a4 z
  · rw [x (152 + 12 * c + j) 15 (by omega), x (152 + 12 * c + j) 16 (by omega), x (152 + 12 * c + j) 12 (by omega), m 239 _ (by omega), m 238 _ (by omega), m 240 _ (by omega)]
    exact a5 j hj
theorem kd_clk : ((List.range 60).all fun k => decide (ab_kd (148 + k) = 16 ∨ ab_kd (148 + k) = 17 ∨ ab_kd (148 + k) = 18 ∨ ab_kd (148 + k) = 5 ∨ ab_kd (148 + k) = 6)) = true := by decide +kernel
def xoMods (mods : List Nat) : Bool := !(mods.contains 16) && !(mods.contains 18) && !(mods.contains 19)
def xoChk (S : List Nat) : Bool := sfChk 9 5 S && sfChk 5 7 S
/-- a method of the class's -/
theorem RO.x {h h' : Hp} {d m : Nat} {ls : List (Option Value)} {v : Option Value} {S mods : List Nat} (hT : TInv h) (O : RO h) (e : Ev d m (0, ls, [], h, fl_tot) (v, h', fl_tot)) (hm : S.contains m = true) (c : xoChk S = true) (F : Fr mods h h') (hmod : xoMods mods = true) (big : ∀ r : Nat, 223 ≤ r → r < 285 → h'.1 r = h.1 r) : RO h' := by
  unfold xoMods at hmod
  simp only [Bool.and_eq_true, Bool.not_eq_true'] at hmod
  obtain ⟨⟨n16, n18⟩, n19⟩ := hmod
  have nn : ∀ z, mods.contains z = false → z ∉ mods := fun z h1 h2 => by rw [List.contains_iff_mem.mpr h2] at h1; cases h1
  unfold xoChk at c
  rw [Bool.and_eq_true] at c
  obtain ⟨o1, o2, o3⟩ := O
  obtain ⟨c5, m8⟩ := q5c hT
  refine ⟨by rw [sf_ev c.1 hm e 0 (by decide +kernel), big 223 (by decide) (by decide)]; exact o1, by rw [sf_ev c.2 hm e 218 (by decide +kernel), big 223 (by decide) (by decide)]; exact o2, fun z => ?_⟩
  rw [big 223 (by decide) (by decide)] at z
  obtain ⟨⟨st, p1, p2, p3⟩, p4, p5⟩ := o3 z
  have e1 : qc h' = qc h := by unfold qc; rw [big 223 (by decide) (by decide)]
  have e2 : ∀ c, qm h' c = qm h c := fun c => by unfold qm; rw [big 227 (by decide) (by decide)]
  have r8 : h'.1 208 = h.1 208 := (F 208 (by rw [show ab_kd 208 = 19 from by decide +kernel]; exact nn _ n19)).1
  refine ⟨⟨st, p1, by rw [r8]; exact p2, by rw [big 223 (by decide) (by decide)]; exact p3⟩, by rw [r8, big 223 (by decide) (by decide)]; exact p4, fun c hc => ?_⟩
  rw [e1] at hc
  rw [e2 c]
  have q8 := m8 c (by omega)
  have rc : h'.1 (148 + 12 * c) = h.1 (148 + 12 * c) := (F _ (by rw [kd_ck (by omega)]; exact nn _ n16)).1
  have ra : ∀ j : Nat, j < 8 → h'.1 (152 + 12 * c + j) = h.1 (152 + 12 * c + j) := fun j hj => (F _ (by rw [kd_act (by omega) hj]; exact nn _ n18)).1
  obtain ⟨⟨i, a1, a2, a3, a4⟩, a5⟩ := p5 c hc
  refine ⟨⟨i, by rw [rc]; exact a1, a2, fun z => ?_, fun z => ?_⟩, fun j hj => ?_⟩
  · rw [ra i (by omega), big 245 (by decide) (by decide)]; exact a3 z
  · rw [big 245 (by decide) (by decide)]; exact a4 z
  · rw [ra j (by omega), big 239 (by decide) (by decide), big 238 (by decide) (by decide), big 240 (by decide) (by decide)]
    exact a5 j hj
/-- a method of the reference's -/
theorem RO.m {h h' : Hp} (hT : TInv h) (O : RO h) (F : Fq oKs oFs h h') (R : Rf h h') : RO h' := by
  have low : ∀ r i, r < 223 → h'.1 r i = h.1 r i := fun r i hr => by rw [R.2 r (by have := kdl hr; omega)]
  have hb : ∀ K ∈ oKs, 82 ≤ K := by decide
  have mm : ∀ r i, 224 ≤ r → r ≤ 273 → h'.1 r i = h.1 r i := fun r i h1 h2 => by
    have := F.c (K := r - 192) (by omega) (by omega) (fun z => by have := hb _ z; omega) i
    rw [show 192 + (r - 192) = r by omega] at this
    exact this
  obtain ⟨o1, o2, o3⟩ := O
  have e13 : h'.1 223 13 = h.1 223 13 := F.fc 13 (by decide)
  refine ⟨by rw [low _ _ (by decide), e13]; exact o1, by rw [low _ _ (by decide), F.fc 74 (by decide)]; exact o2, fun z => ?_⟩
  rw [e13] at z
  refine (o3 z).fr hT (fun r j hr => low r j (by omega)) fun K j hK => ?_
  rcases hK with ⟨rfl, hj⟩ | hK
  · rcases hj with rfl | rfl | rfl
    · exact F.fc 4 (by decide)
    · exact F.fc 15 (by decide)
    · exact F.fc 16 (by decide)
  · exact mm K j (by omega) (by omega)
/-- behind what takes the run away -/
theorem RO.off {h h' : Hp} (O : RO h) (a : h'.1 0 5 = Int32.ofInt 0) (b : h'.1 223 13 = Int32.ofInt 0) (c : h'.1 218 7 = h.1 218 7) (d : h'.1 223 74 = h.1 223 74) : RO h' := ⟨by rw [a, b], by rw [c, d]; exact O.2.1, fun z => absurd (by rw [b]; decide) z⟩
/-- behind a run -/
theorem RP.of {g hx h2 : Hp} {st : Nat} (G : GS g) (R : RR g hx h2 st) (st6 : st ≤ 600) (e5 : hx.1 208 5 = Int32.ofNat st) (low : ∀ r j : Nat, 1 ≤ r → r < 223 → h2.1 r j = hx.1 r j) : RP h2 := by
  obtain ⟨⟨X, M, S15, K, hT⟩, RT, RO⟩ := R
  have e1 : qc h2 = qc g := by unfold qc; rw [M.2.2.1]
  have e2 : ∀ c, qm h2 c = qm g c := fun c => by unfold qm; rw [M.2.2.2 227 c (by decide) (by decide)]
  refine ⟨⟨st, st6, by rw [low _ _ (by decide) (by decide)]; exact e5, S15⟩, by rw [low _ _ (by decide) (by decide)]; exact K.1, fun c hc => ?_⟩
  rw [e1] at hc
  rw [e2 c]
  have c5 := G.c5 hc
  have m8 := G.m8 hc
  obtain ⟨i, ⟨⟨k1, k2, k3⟩, k4, -, k6, -⟩, CUi⟩ := RO c hc
  refine ⟨⟨i, by rw [low (148 + 12 * c) 4 (by omega) (by omega)]; exact k1, k3, fun z => ?_, k6⟩, fun j hj => ?_⟩
  · rw [low (152 + 12 * c + i) 10 (by omega) (by omega)]
    rcases CUi z with u | ⟨p, -, u⟩ | u
    · rw [u.1.1, u.1.2]
    · rw [u.1.1, u.1.2]
    · rw [u.1.1, u.1.2]
  · obtain ⟨o1, o2⟩ := k4 j hj
    rw [low (152 + 12 * c + j) 15 (by omega) (by omega), low (152 + 12 * c + j) 16 (by omega) (by omega), low (152 + 12 * c + j) 12 (by omega) (by omega)]
    exact ⟨o1.1.1, o1.1.2, o2⟩
theorem RO.k_trayHH {h : Hp} (O : RO h) {n : Nat} (h6 : n < 6) (k a f : Int32) : RO (trayHH h n k a f) := by
  refine RO.off O ?_ ?_ ?_ ?_
  · simp only [trayHH, rI, rF, rI2, rF2, true_and, and_true, if_true]
    repeat (first | rw [if_pos (by omega)] | rw [if_neg (by omega)])
  · simp only [trayHH, rI, rF, rI2, rF2, true_and, and_true, if_true]
    repeat (first | rw [if_pos (by omega)] | rw [if_neg (by omega)])
  · simp only [trayHH, rI, rF, rI2, rF2, true_and, and_true, if_true]
    repeat (first | rw [if_pos (by omega)] | rw [if_neg (by omega)])
  · simp only [trayHH, rI, rF, rI2, rF2, true_and, and_true, if_true]
    repeat (first | rw [if_pos (by omega)] | rw [if_neg (by omega)])
theorem RO.k_clerkHH {h : Hp} (O : RO h) {n : Nat} (h5 : n < 5) : RO (clerkHH h n) := by
  refine RO.off O ?_ ?_ ?_ ?_
  · simp only [clerkHH, rI, rF, rI2, rF2, true_and, and_true, if_true]
    repeat (first | rw [if_pos (by omega)] | rw [if_neg (by omega)])
  · simp only [clerkHH, rI, rF, rI2, rF2, true_and, and_true, if_true]
    repeat (first | rw [if_pos (by omega)] | rw [if_neg (by omega)])
  · simp only [clerkHH, rI, rF, rI2, rF2, true_and, and_true, if_true]
    repeat (first | rw [if_pos (by omega)] | rw [if_neg (by omega)])
  · simp only [clerkHH, rI, rF, rI2, rF2, true_and, and_true, if_true]
    repeat (first | rw [if_pos (by omega)] | rw [if_neg (by omega)])
theorem RO.k_actHH {h : Hp} (O : RO h) {c0 n : Nat} (hc0 : c0 < 5) (h8 : n < 8) (tr op a b : Int32) : RO (actHH h c0 n tr op a b) := by
  refine RO.off O ?_ ?_ ?_ ?_
  · simp only [actHH, rI, rF, rI2, rF2, true_and, and_true, if_true]
    repeat (first | rw [if_pos (by omega)] | rw [if_neg (by omega)])
  · simp only [actHH, rI, rF, rI2, rF2, true_and, and_true, if_true]
    repeat (first | rw [if_pos (by omega)] | rw [if_neg (by omega)])
  · simp only [actHH, rI, rF, rI2, rF2, true_and, and_true, if_true]
    repeat (first | rw [if_pos (by omega)] | rw [if_neg (by omega)])
  · simp only [actHH, rI, rF, rI2, rF2, true_and, and_true, if_true]
    repeat (first | rw [if_pos (by omega)] | rw [if_neg (by omega)])
theorem RO.k_batHH {h : Hp} (O : RO h) (n : Nat) (v : Int32) : RO (batHH h n v) := by
  refine RO.off O ?_ ?_ ?_ ?_
  · simp only [batHH, rI, rF, rI2, rF2, true_and, and_true, if_true]
    repeat (first | rw [if_pos (by omega)] | rw [if_neg (by omega)])
  · simp only [batHH, rI, rF, rI2, rF2, true_and, and_true, if_true]
    repeat (first | rw [if_pos (by omega)] | rw [if_neg (by omega)])
  · simp only [batHH, rI, rF, rI2, rF2, true_and, and_true, if_true]
    repeat (first | rw [if_pos (by omega)] | rw [if_neg (by omega)])
  · simp only [batHH, rI, rF, rI2, rF2, true_and, and_true, if_true]
    repeat (first | rw [if_pos (by omega)] | rw [if_neg (by omega)])
theorem RO.k_patHH {h : Hp} (O : RO h) {c0 n : Nat} (hc0 : c0 < 5) (h8 : n < 8) (v : Int32) : RO (patHH h c0 n v) := by
  refine RO.off O ?_ ?_ ?_ ?_
  · simp only [patHH, rI, rF, rI2, rF2, true_and, and_true, if_true]
    repeat (first | rw [if_pos (by omega)] | rw [if_neg (by omega)])
  · simp only [patHH, rI, rF, rI2, rF2, true_and, and_true, if_true]
    repeat (first | rw [if_pos (by omega)] | rw [if_neg (by omega)])
  · simp only [patHH, rI, rF, rI2, rF2, true_and, and_true, if_true]
    repeat (first | rw [if_pos (by omega)] | rw [if_neg (by omega)])
  · simp only [patHH, rI, rF, rI2, rF2, true_and, and_true, if_true]
    repeat (first | rw [if_pos (by omega)] | rw [if_neg (by omega)])
theorem RO.k_thrHH {h : Hp} (O : RO h) {t0 n : Nat} (ht0 : t0 < 6) (h8 : n < 32) (v : Int32) : RO (thrHH h t0 n v) := by
  refine RO.off O ?_ ?_ ?_ ?_
  · simp only [thrHH, rI, rF, rI2, rF2, true_and, and_true, if_true]
    repeat (first | rw [if_pos (by omega)] | rw [if_neg (by omega)])
  · simp only [thrHH, rI, rF, rI2, rF2, true_and, and_true, if_true]
    repeat (first | rw [if_pos (by omega)] | rw [if_neg (by omega)])
  · simp only [thrHH, rI, rF, rI2, rF2, true_and, and_true, if_true]
    repeat (first | rw [if_pos (by omega)] | rw [if_neg (by omega)])
  · simp only [thrHH, rI, rF, rI2, rF2, true_and, and_true, if_true]
    repeat (first | rw [if_pos (by omega)] | rw [if_neg (by omega)])
theorem RO.k_clrHH {h : Hp} (O : RO h)  : RO (clrHH h) := by
  refine RO.off O ?_ ?_ ?_ ?_
  · simp only [clrHH, rI, rF, rI2, rF2, true_and, and_true, if_true]
    repeat (first | rw [if_pos (by omega)] | rw [if_neg (by omega)])
  · simp only [clrHH, rI, rF, rI2, rF2, true_and, and_true, if_true]
    repeat (first | rw [if_pos (by omega)] | rw [if_neg (by omega)])
  · simp only [clrHH, rI, rF, rI2, rF2, true_and, and_true, if_true]
    repeat (first | rw [if_pos (by omega)] | rw [if_neg (by omega)])
  · simp only [clrHH, rI, rF, rI2, rF2, true_and, and_true, if_true]
    repeat (first | rw [if_pos (by omega)] | rw [if_neg (by omega)])
/-- run keeps it -/
theorem RO.run {h h1 h2 : Hp} {hx : Hp} {st' : Nat} (U : LI h) (hT : TInv h) (O : RO h) (st6 : st' ≤ 600) (e1 : h1 = fl_setI hx 0 5 (Int32.ofInt 1)) (R : RR h hx h2 st') (e5 : hx.1 208 5 = Int32.ofNat st') (e13 : h2.1 223 13 = Int32.ofInt 1) (s7 : hx.1 218 7 = h.1 218 7) (m74 : h2.1 223 74 = h.1 223 74) (RfA : Rf h1 h2) : RO h2 := by
  have low : ∀ r i, r < 223 → h2.1 r i = h1.1 r i := fun r i hr => by rw [RfA.2 r (by have := kdl hr; omega)]
  refine ⟨by rw [low _ _ (by decide), e1, setI_at, e13], by rw [low _ _ (by decide), e1, setI_no (by omega), s7, m74]; exact O.2.1, fun _ => RP.of (GS.of hT U.2.2.2) R st6 e5 fun r j z1 z2 => by rw [low r j z2, e1, setI_no (by omega)]⟩
theorem RO.expl {h h1 h2 hL hx hm : Hp} {st' : Nat} {z : Option Value} {d3 : Nat} (O : RO h) (KL : XK h hL) (st6 : st' ≤ 600) (e1 : h1 = fl_setI hx 0 5 (Int32.ofInt 1)) (R : RR hL hx h2 st') (e5 : hx.1 208 5 = Int32.ofNat st') (e13 : h2.1 223 13 = Int32.ofInt 1) (s7 : hx.1 218 7 = hm.1 223 74) (hmT : TInv hm) (V : SV hm) (e3 : Ev d3 153 (0, [some (.ref 223), none, none], [], hm, fl_tot) (z, h2, fl_tot)) (RfA : Rf h1 h2) : RO h2 := by
  have low : ∀ r i, r < 223 → h2.1 r i = h1.1 r i := fun r i hr => by rw [RfA.2 r (by have := kdl hr; omega)]
  obtain ⟨v', h', r1, r2, r3, r4, r5⟩ := c_run hmT V
  have k := ev_det e3 (show Ev 14 153 (0, [some (.ref 223), none, none], [], hm, fl_tot) _ from by
    have := r1 14 (by omega)
    rw [rv31] at this
    exact this)
  obtain ⟨-, k2, -⟩ := tri k
  subst k2
  have m74 : h2.1 223 74 = hm.1 223 74 := r4.fc 74 (by decide)
  refine ⟨by rw [low _ _ (by decide), e1, setI_at, e13], by rw [low _ _ (by decide), e1, setI_no (by omega), s7, m74], fun _ => RP.of (GS.of KL.2.1 KL.1.2.2.2) R st6 e5 fun r j z1 z2 => by rw [low r j z2, e1, setI_no (by omega)]⟩
