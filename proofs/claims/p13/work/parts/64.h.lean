
set_option maxRecDepth 20000
theorem c_act {h : Hp} (hT : TInv h) (G : RG h) {cl tr op a b : Int} (b_cl : -2147483648 ≤ cl ∧ cl ≤ 2147483647) (b_tr : -2147483648 ≤ tr ∧ tr ≤ 2147483647) (b_op : -2147483648 ≤ op ∧ op ≤ 2147483647) (b_a : -2147483648 ≤ a ∧ a ≤ 2147483647) (b_b : -2147483648 ≤ b ∧ b ≤ 2147483647) : PubOut h 145 7 [rv 31, iv cl, iv tr, iv op, iv a, iv b] := by
  have b4 : 0 ≤ rd 31 4 h ∧ rd 31 4 h ≤ 5 := rdt_ok hT 31 4
  have b0 : 0 ≤ rd 31 0 h ∧ rd 31 0 h ≤ 6 := rdt_ok hT 31 0
  rcases s145 hT b_cl b_tr b_op b_a b_b (LVs.self (fl_enter 7 [rv 31, iv cl, iv tr, iv op, iv a, iv b])) with ⟨clerks7, f0, f1, rfl, f3, f4, T, K⟩ | ⟨clerks7, f0, f1, rfl, f3, f4, f5, T, K⟩ | ⟨clerks7, trays8, f0, f1, f2, f3, rfl, f5, f6, f7, rfl, f9, f10, T, K⟩ | ⟨clerks7, trays8, f0, f1, f2, f3, rfl, f5, f6, f7, rfl, f9, f10, f11, T, K⟩ | ⟨clerks7, trays8, kind10, f0, f1, f2, f3, f4, rfl, f6, f7, f8, rfl, f10, f11, f12, rfl, T, lv, Hl, K⟩
  · exact pub K (by omega) T G
  · exact pub K (by omega) T G
  · exact pub K (by omega) T G
  · exact pub K (by omega) T G
  · have hcl : 0 ≤ cl ∧ cl < rd 31 4 h := by omega
    have htr : 0 ≤ tr ∧ tr < rd 31 0 h := by omega
    have b_k := rda_ok hT 32 6 0 5 rfl (i := tr) (by omega) (by omega)
    have b35 := rda_ok hT 35 5 0 8 rfl (i := cl) (by omega) (by omega)
    have o1 := c_ops hT b_k
    have K0 := K
    generalize ho : (if rd 32 tr h = 0 ∨ rd 32 tr h = 4 then (4 : Int) else if rd 32 tr h = 1 ∨ rd 32 tr h = 3 then 2 else if rd 32 tr h = 2 then 5 else 1) = ov at o1
    have hov : (rd 32 tr h = 0 ∨ rd 32 tr h = 4) ∧ ov = 4 ∨ (rd 32 tr h = 1 ∨ rd 32 tr h = 3) ∧ ov = 2 ∨ rd 32 tr h = 2 ∧ ov = 5 ∨ rd 32 tr h = 5 ∧ ov = 1 := by
      rw [← ho]
      repeat' split
      all_goals omega
    rcases s145b hT (cl := cl) (by omega) (tr := tr) (by omega) b_op b_a b_b (o := ov) (by omega) (z := 0) (by omega) (op2 := op) b_op Hl with ⟨f0, f1, f2, T, K⟩ | ⟨f0, f1, f2, f3, T, K⟩ | ⟨kind11, f0, f1, f2, f3, f4, rfl, T, lv, Hl, K⟩
    · refine pub (D := 4) (v := some (iv (-2))) (fun d hd => ?_) (by omega) T G
      obtain ⟨d, rfl⟩ : ∃ d', d = d' + 1 := ⟨d - 1, by omega⟩
      exact K0 d _ _ _ (by omega) (o1 d (by omega)) (K (d + 1) (by omega))
    · refine pub (D := 4) (v := some (iv (-2))) (fun d hd => ?_) (by omega) T G
      obtain ⟨d, rfl⟩ : ∃ d', d = d' + 1 := ⟨d - 1, by omega⟩
      exact K0 d _ _ _ (by omega) (o1 d (by omega)) (K (d + 1) (by omega))
    · have hop : 0 ≤ op ∧ op ≤ ov - 1 := by omega
      have o2 := c_hasKey hT (k := rd 32 tr h) (op := op) b_k b_op
      have K1 := K
      generalize hh : (if rd 32 tr h = 0 ∨ rd 32 tr h = 5 ∨ (rd 32 tr h = 4 ∧ op < 3) then (1 : Int) else 0) = hv at o2
      have hhv : (rd 32 tr h = 0 ∨ rd 32 tr h = 5 ∨ (rd 32 tr h = 4 ∧ op < 3)) ∧ hv = 1 ∨ ¬ (rd 32 tr h = 0 ∨ rd 32 tr h = 5 ∨ (rd 32 tr h = 4 ∧ op < 3)) ∧ hv = 0 := by
        rw [← hh]
        split
        · rename_i z; exact Or.inl ⟨z, rfl⟩
        · rename_i z; exact Or.inr ⟨z, rfl⟩
      have last : ∀ {lv2 : List (Option Value)}, (hv = 1 → 0 ≤ a ∧ a ≤ 31) → LVs [some (rv 31), some (iv cl), some (iv tr), some (iv op), some (iv a), some (iv b), none] lv2 → (∀ d rr, 5 ≤ d → Ev d 145 (68, lv2, [], h, fl_tot) rr → Ev d 145 (0, fl_enter 7 [rv 31, iv cl, iv tr, iv op, iv a, iv b], [], h, fl_tot) rr) → PubOut h 145 7 [rv 31, iv cl, iv tr, iv op, iv a, iv b] := by
        intro lv2 hva Hl2 K2
        rcases s145d hT (cl := cl) (by omega) (tr := tr) (by omega) (op := op) (by omega) b_a b_b Hl2 with ⟨acts8, n9, acts10, n11, f0, f1, f2, f3, rfl, f5, rfl, rfl, rfl, f9⟩ | ⟨acts8, n9, acts10, n11, acts17, g1, g2, g3, g4, g5, rfl, rfl, rfl, rfl, rfl, f0, f1, f2, f3, f4, rfl, f6, rfl, rfl, rfl, rfl, f11⟩ | ⟨acts8, n9, acts10, n11, acts17, acts18, g1, g2, g3, g4, g5, g6, g7, rfl, rfl, rfl, rfl, rfl, rfl, rfl, f0, f1, f2, f3, f4, f5, rfl, f7, rfl, rfl, rfl, rfl, rfl, T, K⟩ | ⟨acts8, f0, rfl, f2, T, K⟩
        all_goals first | (exfalso; omega) | skip
        · exact pub (D := 5) (fun d hd => K2 d _ hd (K d (by omega))) (by omega) T (RG.off (SV.act hT G.1 hcl htr (by omega) ⟨by omega, fun z => hva (by omega)⟩ (by omega) b_a) (rd_eq (by decide) (by decide)))
        · exact pub (D := 5) (fun d hd => K2 d _ hd (K d (by omega))) (by omega) T G
      have bad : (∀ d, 3 ≤ d → Ev d 145 (51, lv, [iv hv], h, fl_tot) (some (iv (-2)), h, fl_tot)) → PubOut h 145 7 [rv 31, iv cl, iv tr, iv op, iv a, iv b] := fun K2 => by
        refine pub (D := 5) (v := some (iv (-2))) (fun d hd => ?_) (by omega) T G
        obtain ⟨d, rfl⟩ : ∃ d', d = d' + 1 := ⟨d - 1, by omega⟩
        exact K0 d _ _ _ (by omega) (o1 d (by omega)) (K1 d _ _ _ (by omega) (o2 d (by omega)) (K2 (d + 1) (by omega)))
      rcases s145c hT (cl := cl) (by omega) (tr := tr) (by omega) b_op b_a b_b (hk := hv) (by omega) Hl with ⟨f0, f1, T, lv, Hl, K⟩ | ⟨f0, f1, f2, f3, f4, T, K⟩ | ⟨f0, f1, f2, f3, f4, f5, T, K⟩ | ⟨f0, f1, f2, f3, f4, f5, T, lv, Hl, K⟩
      · refine last (fun z => by omega) Hl fun d rr hd e => ?_
        obtain ⟨d, rfl⟩ : ∃ d', d = d' + 1 := ⟨d - 1, by omega⟩
        exact K0 d _ _ _ (by omega) (o1 d (by omega)) (K1 d _ _ _ (by omega) (o2 d (by omega)) (K (d + 1) _ (by omega) e))
      · exact bad K
      · exact bad K
      · refine last (fun z => by omega) Hl fun d rr hd e => ?_
        obtain ⟨d, rfl⟩ : ∃ d', d = d' + 1 := ⟨d - 1, by omega⟩
        exact K0 d _ _ _ (by omega) (o1 d (by omega)) (K1 d _ _ _ (by omega) (o2 d (by omega)) (K (d + 1) _ (by omega) e))
theorem c_answer {h : Hp} (hT : TInv h) (G : RG h) {cl ac : Int} (b_cl : -2147483648 ≤ cl ∧ cl ≤ 2147483647) (b_ac : -2147483648 ≤ ac ∧ ac ≤ 2147483647) : PubOut h 179 3 [rv 31, iv cl, iv ac] := by
  rcases s179 hT b_cl b_ac (LVs.self (fl_enter 3 [rv 31, iv cl, iv ac])) with ⟨clerks4, f0, f1, rfl, f3, f4, f5, T, K⟩ | ⟨clerks4, f0, f1, rfl, f3, f4, f5, f6, T, K⟩ | ⟨clerks4, f0, f1, f2, rfl, f4, f5, f6, f7, f8, T, K⟩ | ⟨clerks4, acts6, f0, f1, f2, f3, rfl, f5, f6, f7, f8, rfl, f10, f11, T, K⟩ | ⟨clerks4, acts6, isRun7, f0, f1, f2, f3, f4, rfl, f6, f7, f8, f9, rfl, f11, f12, rfl, f14, T, K⟩ | ⟨clerks4, acts6, isRun7, n9, n10, answers11, f0, f1, f2, f3, f4, f5, f6, f7, rfl, f9, f10, f11, f12, rfl, f14, f15, rfl, f17, rfl, rfl, rfl, T, K⟩
  all_goals exact pub K (by omega) T G
theorem c_outcome {h : Hp} (hT : TInv h) (G : RG h) {cl ac : Int} (b_cl : -2147483648 ≤ cl ∧ cl ≤ 2147483647) (b_ac : -2147483648 ≤ ac ∧ ac ≤ 2147483647) : PubOut h 180 3 [rv 31, iv cl, iv ac] := by
  rcases s180 hT b_cl b_ac (LVs.self (fl_enter 3 [rv 31, iv cl, iv ac])) with ⟨clerks4, f0, f1, rfl, f3, f4, f5, T, K⟩ | ⟨clerks4, f0, f1, rfl, f3, f4, f5, f6, T, K⟩ | ⟨clerks4, f0, f1, f2, rfl, f4, f5, f6, f7, f8, T, K⟩ | ⟨clerks4, acts6, f0, f1, f2, f3, rfl, f5, f6, f7, f8, rfl, f10, f11, T, K⟩ | ⟨clerks4, acts6, isRun7, n9, n10, outcomes11, f0, f1, f2, f3, f4, f5, f6, f7, rfl, f9, f10, f11, f12, rfl, f14, f15, rfl, f17, rfl, rfl, rfl, T, K⟩ | ⟨clerks4, acts6, isRun7, f0, f1, f2, f3, f4, rfl, f6, f7, f8, f9, rfl, f11, f12, rfl, f14, T, K⟩
  all_goals exact pub K (by omega) T G
theorem c_waited {h : Hp} (hT : TInv h) (G : RG h) {cl ac : Int} (b_cl : -2147483648 ≤ cl ∧ cl ≤ 2147483647) (b_ac : -2147483648 ≤ ac ∧ ac ≤ 2147483647) : PubOut h 181 3 [rv 31, iv cl, iv ac] := by
  rcases s181 hT b_cl b_ac (LVs.self (fl_enter 3 [rv 31, iv cl, iv ac])) with ⟨clerks4, f0, f1, rfl, f3, f4, f5, T, K⟩ | ⟨clerks4, f0, f1, rfl, f3, f4, f5, f6, T, K⟩ | ⟨clerks4, f0, f1, f2, rfl, f4, f5, f6, f7, f8, T, K⟩ | ⟨clerks4, acts6, f0, f1, f2, f3, rfl, f5, f6, f7, f8, rfl, f10, f11, T, K⟩ | ⟨clerks4, acts6, isRun7, n9, n10, waits11, f0, f1, f2, f3, f4, f5, f6, f7, rfl, f9, f10, f11, f12, rfl, f14, f15, rfl, f17, rfl, rfl, rfl, T, K⟩ | ⟨clerks4, acts6, isRun7, f0, f1, f2, f3, f4, rfl, f6, f7, f8, f9, rfl, f11, f12, rfl, f14, T, K⟩
  all_goals exact pub K (by omega) T G
theorem c_mark {h : Hp} (hT : TInv h) (G : RG h) {i w : Int} (b_i : -2147483648 ≤ i ∧ i ≤ 2147483647) (b_w : -2147483648 ≤ w ∧ w ≤ 2147483647) : PubOut h 182 3 [rv 31, iv i, iv w] := by
  rcases s182 hT b_i b_w (LVs.self (fl_enter 3 [rv 31, iv i, iv w])) with ⟨f0, f1, f2, T, K⟩ | ⟨f0, f1, f2, f3, T, K⟩ | ⟨isRun4, marks5, f0, f1, f2, f3, f4, f5, f6, rfl, f8, rfl, f10, f11, T, K⟩ | ⟨isRun4, marks5, f0, f1, f2, f3, f4, f5, f6, rfl, f8, rfl, f10, f11, f12, T, K⟩ | ⟨isRun4, marks5, markSteps7, f0, f1, f2, f3, f4, f5, f6, f7, rfl, f9, rfl, f11, f12, f13, f14, f15, f16, rfl, T, K⟩ | ⟨isRun4, marks5, markEnds7, f0, f1, f2, f3, f4, f5, f6, f7, rfl, f9, rfl, f11, f12, f13, f14, f15, f16, rfl, f18, T, K⟩ | ⟨isRun4, marks5, markEnds7, f0, f1, f2, f3, f4, f5, f6, f7, rfl, f9, rfl, f11, f12, f13, f14, f15, f16, rfl, f18, T, K⟩ | ⟨isRun4, marks5, markAct7, n8, f0, f1, f2, f3, f4, f5, f6, f7, f8, rfl, f10, rfl, f12, f13, f14, f15, f16, rfl, rfl, T, K⟩ | ⟨isRun4, marks5, markAct7, n8, f0, f1, f2, f3, f4, f5, f6, f7, f8, rfl, f10, rfl, f12, f13, f14, f15, rfl, rfl, T, K⟩ | ⟨isRun4, f0, f1, f2, f3, f4, rfl, f6, T, K⟩
  all_goals exact pub K (by omega) T G
theorem c_asked {h : Hp} (hT : TInv h) (G : RG h) : PubOut h 190 1 [rv 31] := by
  rcases s190 hT  (LVs.self (fl_enter 1 [rv 31])) with ⟨asked2, f0, rfl, T, K⟩
  all_goals exact pub K (by omega) T G
theorem c_tries {h : Hp} (hT : TInv h) (G : RG h) : PubOut h 204 1 [rv 31] := by
  rcases s204 hT  (LVs.self (fl_enter 1 [rv 31])) with ⟨tries2, f0, rfl, T, K⟩
  all_goals exact pub K (by omega) T G
theorem c_explored {h : Hp} (hT : TInv h) (G : RG h) {w : Int} (b_w : -2147483648 ≤ w ∧ w ≤ 2147483647) : PubOut h 211 2 [rv 31, iv w] := by
  rcases s211 hT b_w (LVs.self (fl_enter 2 [rv 31, iv w])) with ⟨f0, f1, f2, T, K⟩ | ⟨f0, f1, f2, f3, T, K⟩ | ⟨explored4, f0, f1, f2, f3, f4, rfl, T, K⟩
  all_goals exact pub K (by omega) T G

theorem c_count_a {h : Hp} (hT : TInv h) {w : Int} (b_w : -2147483648 ≤ w ∧ w ≤ 2147483647) : ∀ (m : Nat) (n c : Int) (ls : List (Option Value)), 5 - c < m → (0 ≤ c ∧ c ≤ 5) → (-2147483648 ≤ n ∧ n ≤ 2147483647) → LVs [some (rv 31), some (iv w), some (iv n), some (iv c)] ls → ∃ v, (-2147483648 ≤ v ∧ v ≤ 2147483647) ∧ ∀ d, 3 ≤ d → Ev d 183 (52, ls, [], h, fl_tot) (some (iv v), h, fl_tot) := by
  intro m
  induction m with
  | zero => intro n c ls h1 h2; omega
  | succ m ih =>
    intro n c ls h1 b_c b_n hl
    have b4 : 0 ≤ rd 31 4 h ∧ rd 31 4 h ≤ 5 := rdt_ok hT 31 4
    rcases s183a hT b_w b_n b_c hl with ⟨clerks5, f0, rfl, f2, T, K⟩ | ⟨clerks5, acts7, n8, f0, f1, f2, f3, rfl, f5, rfl, T, lv, Hl, K⟩
    all_goals first
      | exact ⟨_, b_n, K⟩
      | (obtain ⟨v, v0, v1⟩ := ih _ (c + 1) lv (by omega) (by omega) (by assumption) Hl
         exact ⟨v, v0, fun d hd => K d _ hd (v1 d hd)⟩)
theorem c_count_b {h : Hp} (hT : TInv h) {w : Int} (b_w : -2147483648 ≤ w ∧ w ≤ 2147483647) : ∀ (m : Nat) (n c : Int) (ls : List (Option Value)), 5 - c < m → (0 ≤ c ∧ c ≤ 5) → (-2147483648 ≤ n ∧ n ≤ 2147483647) → LVs [some (rv 31), some (iv w), some (iv n), some (iv c)] ls → ∃ v, (-2147483648 ≤ v ∧ v ≤ 2147483647) ∧ ∀ d, 3 ≤ d → Ev d 183 (113, ls, [], h, fl_tot) (some (iv v), h, fl_tot) := by
  intro m
  induction m with
  | zero => intro n c ls h1 h2; omega
  | succ m ih =>
    intro n c ls h1 b_c b_n hl
    have b4 : 0 ≤ rd 31 4 h ∧ rd 31 4 h ≤ 5 := rdt_ok hT 31 4
    rcases s183b hT b_w b_n b_c hl with ⟨clerks5, isRun6, f0, f1, rfl, f3, rfl, f5, T, K⟩ | ⟨clerks5, isRun6, f0, f1, rfl, f3, rfl, f5, T, K⟩ | ⟨clerks5, isWaiting7, f0, f1, f2, rfl, f4, rfl, f6, T, lv, Hl, K⟩ | ⟨clerks5, isWaiting7, n8, f0, f1, f2, f3, rfl, f5, rfl, f7, T, lv, Hl, K⟩
    all_goals first
      | exact ⟨_, by omega, K⟩
      | (obtain ⟨v, v0, v1⟩ := ih _ (c + 1) lv (by omega) (by omega) (by first | assumption | omega) Hl
         exact ⟨v, v0, fun d hd => K d _ hd (v1 d hd)⟩)
theorem c_count {h : Hp} (hT : TInv h) {w : Int} (b_w : -2147483648 ≤ w ∧ w ≤ 2147483647) : ∃ v, (-2147483648 ≤ v ∧ v ≤ 2147483647) ∧ ∀ d, 3 ≤ d → Ev d 183 (0, fl_enter 4 [rv 31, iv w], [], h, fl_tot) (some (iv v), h, fl_tot) := by
  have b4 := rdt_ok hT 31 4
  have b0 := rdt_ok hT 31 0
  rcases s183 hT b_w (LVs.self (fl_enter 4 [rv 31, iv w])) with ⟨f0, f1, f2, f3, f4, f5, T, K⟩ | ⟨trays3, f0, f1, rfl, T, K⟩ | ⟨clerks3, f0, f1, rfl, T, K⟩ | ⟨f0, T, lv, Hl, K⟩ | ⟨isRun3, f0, f1, rfl, f3, T, K⟩ | ⟨isRun3, steps4, f0, f1, f2, rfl, f4, rfl, T, K⟩ | ⟨isRun3, f0, f1, rfl, f3, T, K⟩ | ⟨isRun3, marks4, f0, f1, f2, rfl, f4, rfl, T, K⟩ | ⟨f0, T, lv, Hl, K⟩
  all_goals first
    | exact ⟨_, by omega, K⟩
    | exact ⟨_, by decide, K⟩
    | (obtain ⟨v, v0, v1⟩ := c_count_a hT b_w 6 0 0 lv (by omega) (by omega) (by omega) Hl
       exact ⟨v, v0, fun d hd => K d _ hd (v1 d hd)⟩)
    | (obtain ⟨v, v0, v1⟩ := c_count_b hT b_w 6 0 0 lv (by omega) (by omega) (by omega) Hl
       exact ⟨v, v0, fun d hd => K d _ hd (v1 d hd)⟩)
theorem p_count {h : Hp} (hT : TInv h) (G : RG h) {w : Int} (b_w : -2147483648 ≤ w ∧ w ≤ 2147483647) : PubOut h 183 4 [rv 31, iv w] := by
  obtain ⟨v, -, v1⟩ := c_count hT b_w
  exact pub v1 (by omega) ⟨hT, Rf.refl h⟩ G
theorem c_about_l {h : Hp} (hT : TInv h) {tr w : Int} (b_tr : 0 ≤ tr ∧ tr ≤ 5) (b_w : -2147483648 ≤ w ∧ w ≤ 2147483647) : ∀ (m : Nat) (n s : Int) (ls : List (Option Value)), 4 - s < m → (0 ≤ s ∧ s ≤ 4) → (-2147483648 ≤ n ∧ n ≤ 2147483647) → LVs [some (rv 31), some (iv tr), some (iv w), some (iv n), some (iv s)] ls → ∃ v, ∀ d, 3 ≤ d → Ev d 191 (111, ls, [], h, fl_tot) (some (iv v), h, fl_tot) := by
  intro m
  induction m with
  | zero => intro n s ls h1 h2; omega
  | succ m ih =>
    intro n s ls h1 b_s b_n hl
    rcases s191l hT b_tr b_w b_n b_s hl with ⟨f0, f1, T, K⟩ | ⟨n7, n8, grows9, n11, n12, rows13, n14, f0, f1, f2, f3, f4, f5, f6, f7, f8, rfl, rfl, rfl, f12, rfl, rfl, rfl, T, lv, Hl, K⟩ | ⟨n7, n8, grows9, n11, n12, rows13, n14, n15, f0, f1, f2, f3, f4, f5, f6, f7, f8, f9, rfl, rfl, rfl, f13, rfl, rfl, rfl, rfl, T, lv, Hl, K⟩
    all_goals first
      | exact ⟨_, K⟩
      | (obtain ⟨v, v1⟩ := ih _ (s + 1) lv (by omega) (by omega) (by assumption) Hl
         exact ⟨v, fun d hd => K d _ hd (v1 d hd)⟩)
theorem c_about {h : Hp} (hT : TInv h) (G : RG h) {tr w : Int} (b_tr : -2147483648 ≤ tr ∧ tr ≤ 2147483647) (b_w : -2147483648 ≤ w ∧ w ≤ 2147483647) : PubOut h 191 5 [rv 31, iv tr, iv w] := by
  have b0 : 0 ≤ rd 31 0 h ∧ rd 31 0 h ≤ 6 := rdt_ok hT 31 0
  rcases s191 hT b_tr b_w (LVs.self (fl_enter 5 [rv 31, iv tr, iv w])) with ⟨trays4, f0, f1, rfl, f3, f4, T, K⟩ | ⟨trays4, f0, f1, rfl, f3, f4, f5, T, K⟩ | ⟨trays4, f0, f1, f2, rfl, f4, f5, f6, f7, f8, T, K⟩ | ⟨trays4, f0, f1, f2, rfl, f4, f5, f6, f7, f8, f9, T, K⟩ | ⟨trays4, kind6, isRun7, thrownMany9, f0, f1, f2, f3, f4, f5, rfl, f7, f8, f9, f10, f11, f12, rfl, f14, f15, f16, rfl, f18, f19, f20, f21, f22, f23, rfl, T, K⟩ | ⟨trays4, kind6, isRun7, began9, f0, f1, f2, f3, f4, f5, rfl, f7, f8, f9, f10, f11, f12, rfl, f14, f15, f16, rfl, f18, rfl, T, K⟩ | ⟨trays4, kind6, isRun7, f0, f1, f2, f3, f4, rfl, f6, f7, f8, f9, f10, f11, rfl, f13, f14, f15, rfl, f17, T, K⟩ | ⟨trays4, kind6, f0, f1, f2, f3, rfl, f5, f6, f7, f8, f9, f10, rfl, f12, f13, f14, T, K⟩ | ⟨trays4, kind6, isRun7, thrownMany9, f0, f1, f2, f3, f4, f5, rfl, f7, f8, f9, f10, f11, f12, rfl, f14, f15, f16, rfl, f18, f19, f20, f21, f22, f23, rfl, T, K⟩ | ⟨trays4, kind6, isRun7, isClosed9, f0, f1, f2, f3, f4, f5, rfl, f7, f8, f9, f10, f11, f12, rfl, f14, f15, f16, rfl, f18, rfl, f20, T, K⟩ | ⟨trays4, kind6, isRun7, isClosed9, f0, f1, f2, f3, f4, f5, rfl, f7, f8, f9, f10, f11, f12, rfl, f14, f15, f16, rfl, f18, rfl, f20, T, K⟩ | ⟨trays4, kind6, isRun7, f0, f1, f2, f3, f4, rfl, f6, f7, f8, f9, f10, f11, rfl, f13, f14, f15, rfl, f17, T, K⟩ | ⟨trays4, kind6, f0, f1, f2, f3, rfl, f5, f6, f7, f8, f9, f10, rfl, f12, f13, f14, T, K⟩ | ⟨trays4, kind6, isRun7, thrownMany9, f0, f1, f2, f3, f4, f5, rfl, f7, f8, f9, f10, f11, f12, rfl, f14, f15, rfl, f17, f18, f19, f20, f21, f22, rfl, T, K⟩ | ⟨trays4, kind6, isRun7, grew9, f0, f1, f2, f3, f4, f5, rfl, f7, f8, f9, f10, f11, f12, rfl, f14, f15, rfl, f17, rfl, T, K⟩ | ⟨trays4, kind6, isRun7, moved9, f0, f1, f2, f3, f4, f5, rfl, f7, f8, f9, f10, f11, f12, rfl, f14, f15, rfl, f17, rfl, T, K⟩ | ⟨trays4, kind6, isRun7, f0, f1, f2, f3, f4, rfl, f6, f7, f8, f9, f10, f11, rfl, f13, f14, rfl, f16, T, lv, Hl, K⟩ | ⟨trays4, kind6, isRun7, f0, f1, f2, f3, f4, rfl, f6, f7, f8, f9, f10, f11, rfl, f13, f14, rfl, f16, T, K⟩ | ⟨trays4, kind6, f0, f1, f2, f3, rfl, f5, f6, f7, f8, f9, f10, rfl, f12, f13, T, K⟩
  all_goals first
    | exact pub K (by omega) T G
    | (obtain ⟨v, v1⟩ := c_about_l hT (tr := tr) (by omega) b_w 5 0 0 lv (by omega) (by omega) (by omega) Hl
       exact pub (D := 3) (fun d hd => K d _ hd (v1 d hd)) (by omega) T G)
theorem c_clear_b {n0 : Int} (b_n : -2147483648 ≤ n0 ∧ n0 ≤ 2147483647) : ∀ (m : Nat) (i : Int) (ls : List (Option Value)) (h : Hp), TInv h → 192 - i < m → (0 ≤ i ∧ i ≤ 192) → LVs [some (rv 31), some (iv n0), some (iv i)] ls → ∃ h', (∀ d, 3 ≤ d → Ev d 213 (40, ls, [], h, fl_tot) (some (iv n0), h', fl_tot)) ∧ Nx h h' ∧ Fq [42] [13] h h' ∧ rd 31 13 h' = 0 := by
  intro m
  induction m with
  | zero => intro i ls h hT h1 h2; omega
  | succ m ih =>
    intro i ls h hT h1 b_i hl
    rcases s213b hT b_n b_i hl with ⟨g1, rfl, f0, f1, T, K⟩ | ⟨g1, rfl, f0, f1, T, lv, Hl, K⟩
    · exact ⟨_, K, T, (Fq.refl h).putf 13 0 rfl, rd_eq (by decide) (by decide)⟩
    · obtain ⟨h', u1, u2, u3, u4⟩ := ih (i + 1) lv _ T.1 (by omega) (by omega) Hl
      exact ⟨h', fun d hd => K d _ hd (u1 d hd), T.trans u2, ((Fq.refl h).put 42 i 0 rfl).trans u3, u4⟩
theorem c_clear_a {n0 : Int} (b_n : -2147483648 ≤ n0 ∧ n0 ≤ 2147483647) : ∀ (m : Nat) (i : Int) (ls : List (Option Value)) (h : Hp), TInv h → 600 - i < m → (0 ≤ i ∧ i ≤ 600) → LVs [some (rv 31), some (iv n0), some (iv i)] ls → ∃ h', (∀ d, 3 ≤ d → Ev d 213 (18, ls, [], h, fl_tot) (some (iv n0), h', fl_tot)) ∧ Nx h h' ∧ Fq [41, 42] [13] h h' ∧ rd 31 13 h' = 0 := by
  intro m
  induction m with
  | zero => intro i ls h hT h1 h2; omega
  | succ m ih =>
    intro i ls h hT h1 b_i hl
    rcases s213a hT b_n b_i hl with ⟨f0, f1, T, lv, Hl, K⟩ | ⟨g1, rfl, f0, f1, T, lv, Hl, K⟩
    · obtain ⟨h', u1, u2, u3, u4⟩ := c_clear_b b_n 193 0 lv h hT (by omega) (by omega) Hl
      exact ⟨h', fun d hd => K d _ hd (u1 d hd), u2, u3.wide rfl rfl, u4⟩
    · obtain ⟨h', u1, u2, u3, u4⟩ := ih (i + 1) lv _ T.1 (by omega) (by omega) Hl
      exact ⟨h', fun d hd => K d _ hd (u1 d hd), T.trans u2, ((Fq.refl h).put 41 i (-1) rfl).trans u3, u4⟩
theorem c_clear {h : Hp} (hT : TInv h) (G : RG h) : PubOut h 213 3 [rv 31] := by
  obtain ⟨v, v0, v1⟩ := c_count hT (w := 2) (by omega)
  obtain ⟨T, lv, Hl, K⟩ := s213 hT (LVs.self (fl_enter 3 [rv 31]))
  have K0 := K
  obtain ⟨g1, g2, rfl, rfl, T, lv, Hl, K⟩ := s213r hT (n := v) v0 Hl
  have e4 : rd 31 4 (wr 31 4 0 (wr 31 0 0 h)) = 0 := rd_eq (by decide) (by decide)
  obtain ⟨h', u1, u2, u3, u4⟩ := c_clear_a v0 601 0 lv _ T.1 (by omega) (by omega) Hl
  refine pub (D := 4) (v := some (iv v)) (fun d hd => ?_) (by omega) (T.trans u2) (RG.off (fun c j q1 q2 _ _ => ?_) u4)
  · obtain ⟨d, rfl⟩ : ∃ d', d = d' + 1 := ⟨d - 1, by omega⟩
    exact K0 d _ _ _ (by omega) (v1 d (by omega)) (K (d + 1) _ (by omega) (u1 (d + 1) (by omega)))
  · rw [u3.f 4 rfl, e4] at q2
    omega
theorem p_run {h : Hp} (hT : TInv h) (G : RG h) : PubOut h 153 3 [rv 31] := by
  obtain ⟨v, h', r1, r2, r3, r4, r5⟩ := c_run hT G.1
  exact pub r1 (by omega) r2 ⟨r3.1, fun _ => r3⟩
