
set_option maxRecDepth 20000
/-! THE METHODS THAT PREPARE -/
def RG (h : Hp) : Prop := SV h ∧ (rd 31 13 h = 1 → RI h)
def PubOut (h : Hp) (m nL : Nat) (as : List Value) : Prop := ∃ v h', (∀ d, 14 ≤ d → Ev d m (0, fl_enter nL as, [], h, fl_tot) (v, h', fl_tot)) ∧ Nx h h' ∧ RG h'
theorem RG.off {h : Hp} (V : SV h) (e : rd 31 13 h = 0) : RG h := ⟨V, fun z => by omega⟩
theorem pub {h : Hp} {m nL : Nat} {as : List Value} {v : Option Value} {h' : Hp} {D : Nat} (K : ∀ d, D ≤ d → Ev d m (0, fl_enter nL as, [], h, fl_tot) (v, h', fl_tot)) (hD : D ≤ 14) (T : Nx h h') (G : RG h') : PubOut h m nL as := ⟨v, h', fun d hd => K d (by omega), T, G⟩
theorem c_tray {h : Hp} (hT : TInv h) (G : RG h) {k a pl : Int} (b_k : -2147483648 ≤ k ∧ k ≤ 2147483647) (b_a : -2147483648 ≤ a ∧ a ≤ 2147483647) (b_pl : -2147483648 ≤ pl ∧ pl ≤ 2147483647) : PubOut h 142 4 [rv 31, iv k, iv a, iv pl] := by
  have b0 : 0 ≤ rd 31 0 h ∧ rd 31 0 h ≤ 6 := rdt_ok hT 31 0
  have fin : rd 31 0 h ≠ 6 → SV (wr 31 13 0 (wr 31 0 (rd 31 0 h + 1) (wr 34 (rd 31 0 h) pl (wr 33 (rd 31 0 h) a (wr 32 (rd 31 0 h) k h))))) := fun hne c j q1 q2 q3 q4 => by
    have F := (((((Fq.refl (Ks := [32, 33, 34]) (fs := [0, 13]) h).put 32 (rd 31 0 h) k rfl).put 33 (rd 31 0 h) a rfl).put 34 (rd 31 0 h) pl rfl).putf 0 (rd 31 0 h + 1) rfl).putf 13 0 rfl
    have e0 : rd 31 0 (wr 31 13 0 (wr 31 0 (rd 31 0 h + 1) (wr 34 (rd 31 0 h) pl (wr 33 (rd 31 0 h) a (wr 32 (rd 31 0 h) k h))))) = rd 31 0 h + 1 := by
      rw [rd_ne (by decide) (by decide) (by decide)]
      exact rd_eq (by omega) (by omega)
    rw [F.f 4 rfl] at q2
    rw [F.k 35 c rfl] at q4
    obtain ⟨V1, V2⟩ := G.1 c j q1 q2 q3 q4
    have b4 : 0 ≤ rd 31 4 h ∧ rd 31 4 h ≤ 5 := rdt_ok hT 31 4
    have b35 := rda_ok hT 35 5 0 8 rfl (i := c) q1 (by omega)
    have bt := rda_ok hT 36 40 0 5 rfl (i := 8 * c + j) (by omega) (by omega)
    have e32 : rd 32 (rd 36 (8 * c + j) h) (wr 31 13 0 (wr 31 0 (rd 31 0 h + 1) (wr 34 (rd 31 0 h) pl (wr 33 (rd 31 0 h) a (wr 32 (rd 31 0 h) k h))))) = rd 32 (rd 36 (8 * c + j) h) h := by
      simp (disch := omega) only [rdk]
      exact rd_ne (by omega) (by omega) (by omega)
    unfold actOK at V1 ⊢
    rw [F.k 36 _ rfl, e32, F.k 37 _ rfl, F.k 38 _ rfl, e0]
    exact ⟨V1, by omega⟩
  rcases s142 hT b_k b_a b_pl (LVs.self (fl_enter 4 [rv 31, iv k, iv a, iv pl])) with ⟨f0, f1, f2, T, K⟩ | ⟨f0, f1, f2, f3, T, K⟩ | ⟨f0, f1, f2, f3, f4, f5, f6, f7, T, K⟩ | ⟨f0, f1, f2, f3, f4, f5, f6, f7, f8, T, K⟩ | ⟨trays5, g1, g2, g3, g4, g5, rfl, rfl, rfl, rfl, rfl, f0, f1, f2, f3, f4, f5, f6, f7, f8, f9, rfl, f11, f12, f13, f14, f15, f16, T, K⟩ | ⟨trays5, f0, f1, f2, f3, f4, f5, f6, f7, f8, f9, rfl, f11, T, K⟩ | ⟨f0, f1, f2, f3, f4, f5, f6, f7, T, K⟩ | ⟨f0, f1, f2, f3, f4, f5, f6, f7, f8, T, K⟩ | ⟨f0, f1, f2, f3, f4, f5, f6, f7, f8, f9, f10, f11, T, K⟩ | ⟨f0, f1, f2, f3, f4, f5, f6, f7, f8, f9, f10, f11, f12, T, K⟩ | ⟨trays5, g1, g2, g3, g4, g5, rfl, rfl, rfl, rfl, rfl, f0, f1, f2, f3, f4, f5, f6, f7, f8, f9, f10, f11, f12, f13, rfl, f15, f16, f17, f18, f19, f20, T, K⟩ | ⟨trays5, f0, f1, f2, f3, f4, f5, f6, f7, f8, f9, f10, f11, f12, f13, rfl, f15, T, K⟩
  all_goals first
    | exact pub K (by omega) T G
    | exact pub K (by omega) T (RG.off (fin (by omega)) (rd_eq (by decide) (by decide)))
theorem c_clerk {h : Hp} (hT : TInv h) (G : RG h) : PubOut h 144 1 [rv 31] := by
  have b4 : 0 ≤ rd 31 4 h ∧ rd 31 4 h ≤ 5 := rdt_ok hT 31 4
  have fin : rd 31 4 h ≠ 5 → SV (wr 31 13 0 (wr 31 4 (rd 31 4 h + 1) (wr 35 (rd 31 4 h) 0 h))) := fun hne c j q1 q2 q3 q4 => by
    have F := (((Fq.refl (Ks := [35]) (fs := [4, 13]) h).put 35 (rd 31 4 h) 0 rfl).putf 4 (rd 31 4 h + 1) rfl).putf 13 0 rfl
    have e4 : rd 31 4 (wr 31 13 0 (wr 31 4 (rd 31 4 h + 1) (wr 35 (rd 31 4 h) 0 h))) = rd 31 4 h + 1 := by
      rw [rd_ne (by decide) (by decide) (by decide)]
      exact rd_eq (by omega) (by omega)
    have e35 : rd 35 c (wr 31 13 0 (wr 31 4 (rd 31 4 h + 1) (wr 35 (rd 31 4 h) 0 h))) = if c = rd 31 4 h then 0 else rd 35 c h := by
      simp (disch := omega) only [rdk, rd_wr]
    rw [e4] at q2
    rw [e35] at q4
    split at q4
    · omega
    · obtain ⟨V1, V2⟩ := G.1 c j q1 (by omega) q3 q4
      unfold actOK at V1 ⊢
      rw [F.k 36 _ rfl, F.k 32 _ rfl, F.k 37 _ rfl, F.k 38 _ rfl, F.f 0 rfl]
      exact ⟨V1, V2⟩
  rcases s144 hT (LVs.self (fl_enter 1 [rv 31])) with ⟨clerks2, g1, g2, g3, rfl, rfl, rfl, f0, rfl, f2, f3, f4, f5, T, K⟩ | ⟨clerks2, f0, rfl, f2, T, K⟩
  all_goals first
    | exact pub K (by omega) T G
    | exact pub K (by omega) T (RG.off (fin (by omega)) (rd_eq (by decide) (by decide)))
theorem c_baton {h : Hp} (hT : TInv h) (G : RG h) {i cl : Int} (b_i : -2147483648 ≤ i ∧ i ≤ 2147483647) (b_cl : -2147483648 ≤ cl ∧ cl ≤ 2147483647) : ∃ h', (∀ d, 14 ≤ d → Ev d 149 (0, fl_enter 3 [rv 31, iv i, iv cl], [], h, fl_tot) (some (iv (if 0 ≤ i ∧ i ≤ 599 ∧ -1 ≤ cl ∧ cl ≤ 4 then 1 else -2)), h', fl_tot)) ∧ Nx h h' ∧ RG h' := by
  rcases s149 hT b_i b_cl (LVs.self (fl_enter 3 [rv 31, iv i, iv cl])) with ⟨f0, f1, f2, T, K⟩ | ⟨f0, f1, f2, f3, T, K⟩ | ⟨f0, f1, f2, f3, f4, f5, f6, T, K⟩ | ⟨f0, f1, f2, f3, f4, f5, f6, f7, T, K⟩ | ⟨g1, g2, rfl, rfl, f0, f1, f2, f3, f4, f5, f6, f7, T, K⟩
  all_goals first
    | exact ⟨h, fun d hd => ret_eq (K d (by omega)) (by rw [if_neg (by omega)]), T, G⟩
    | (have F := ((Fq.refl (Ks := [41]) (fs := [13]) h).put 41 i cl rfl).putf 13 0 rfl
       exact ⟨_, fun d hd => ret_eq (K d (by omega)) (by rw [if_pos (by omega)]), T, RG.off (G.1.fr F rfl) (rd_eq (by decide) (by decide))⟩)
theorem c_patience {h : Hp} (hT : TInv h) (G : RG h) {cl ac n : Int} (b_cl : -2147483648 ≤ cl ∧ cl ≤ 2147483647) (b_ac : -2147483648 ≤ ac ∧ ac ≤ 2147483647) (b_n : -2147483648 ≤ n ∧ n ≤ 2147483647) : PubOut h 150 4 [rv 31, iv cl, iv ac, iv n] := by
  rcases s150 hT b_cl b_ac b_n (LVs.self (fl_enter 4 [rv 31, iv cl, iv ac, iv n])) with ⟨clerks5, f0, f1, rfl, f3, f4, f5, T, K⟩ | ⟨clerks5, f0, f1, rfl, f3, f4, f5, f6, T, K⟩ | ⟨clerks5, f0, f1, f2, rfl, f4, f5, f6, f7, f8, T, K⟩ | ⟨clerks5, acts7, f0, f1, f2, f3, rfl, f5, f6, f7, f8, rfl, f10, f11, T, K⟩ | ⟨clerks5, acts7, f0, f1, f2, f3, f4, rfl, f6, f7, f8, f9, rfl, f11, f12, f13, f14, T, K⟩ | ⟨clerks5, acts7, f0, f1, f2, f3, f4, rfl, f6, f7, f8, f9, rfl, f11, f12, f13, f14, f15, T, K⟩ | ⟨clerks5, acts7, n9, n10, g1, g2, rfl, rfl, f0, f1, f2, f3, f4, f5, f6, rfl, f8, f9, f10, f11, rfl, f13, f14, f15, f16, f17, rfl, rfl, T, K⟩
  all_goals first
    | exact pub K (by omega) T G
    | (have F (j v : Int) := ((Fq.refl (Ks := [40]) (fs := [13]) h).put 40 j v rfl).putf 13 0 rfl
       exact pub K (by omega) T (RG.off (G.1.fr (F _ _) rfl) (rd_eq (by decide) (by decide))))
theorem c_throwing {h : Hp} (hT : TInv h) (G : RG h) {tr key n : Int} (b_tr : -2147483648 ≤ tr ∧ tr ≤ 2147483647) (b_key : -2147483648 ≤ key ∧ key ≤ 2147483647) (b_n : -2147483648 ≤ n ∧ n ≤ 2147483647) : PubOut h 152 4 [rv 31, iv tr, iv key, iv n] := by
  rcases s152 hT b_tr b_key b_n (LVs.self (fl_enter 4 [rv 31, iv tr, iv key, iv n])) with ⟨trays5, f0, f1, rfl, f3, f4, T, K⟩ | ⟨trays5, f0, f1, rfl, f3, f4, f5, T, K⟩ | ⟨trays5, kind7, f0, f1, f2, rfl, f4, f5, f6, rfl, f8, T, K⟩ | ⟨trays5, kind7, f0, f1, f2, f3, rfl, f5, f6, f7, rfl, f9, f10, f11, T, K⟩ | ⟨trays5, kind7, f0, f1, f2, f3, rfl, f5, f6, f7, rfl, f9, f10, f11, f12, T, K⟩ | ⟨trays5, kind7, f0, f1, f2, f3, f4, rfl, f6, f7, f8, rfl, f10, f11, f12, f13, f14, f15, T, K⟩ | ⟨trays5, kind7, f0, f1, f2, f3, f4, rfl, f6, f7, f8, rfl, f10, f11, f12, f13, f14, f15, f16, T, K⟩ | ⟨trays5, kind7, n9, n10, g1, g2, rfl, rfl, f0, f1, f2, f3, f4, f5, f6, rfl, f8, f9, f10, rfl, f12, f13, f14, f15, f16, f17, f18, rfl, rfl, T, K⟩
  all_goals first
    | exact pub K (by omega) T G
    | (have F (j v : Int) := ((Fq.refl (Ks := [42]) (fs := [13]) h).put 42 j v rfl).putf 13 0 rfl
       exact pub K (by omega) T (RG.off (G.1.fr (F _ _) rfl) (rd_eq (by decide) (by decide))))
theorem c_ops {h : Hp} (hT : TInv h) {k : Int} (b_k : 0 ≤ k ∧ k ≤ 5) : ∀ d, 3 ≤ d → Ev d 147 (0, fl_enter 1 [iv k], [], h, fl_tot) (some (iv (if k = 0 ∨ k = 4 then 4 else if k = 1 ∨ k = 3 then 2 else if k = 2 then 5 else 1)), h, fl_tot) := by
  intro d hd
  rcases s147 hT b_k (LVs.self (fl_enter 1 [iv k])) with ⟨f0, f1, T, K⟩ | ⟨f0, f1, f2, f3, T, K⟩ | ⟨f0, f1, f2, f3, f4, f5, T, K⟩ | ⟨f0, f1, f2, f3, f4, f5, T, K⟩ | ⟨f0, f1, f2, f3, f4, T, K⟩ | ⟨f0, f1, f2, T, K⟩
  all_goals first | (exfalso; omega) | (refine ret_eq (K d hd) ?_; (repeat (first | rw [if_pos (by omega)] | rw [if_neg (by omega)])))
theorem c_hasKey {h : Hp} (hT : TInv h) {k op : Int} (b_k : 0 ≤ k ∧ k ≤ 5) (b_op : -2147483648 ≤ op ∧ op ≤ 2147483647) : ∀ d, 3 ≤ d → Ev d 148 (0, fl_enter 2 [iv k, iv op], [], h, fl_tot) (some (iv (if k = 0 ∨ k = 5 ∨ (k = 4 ∧ op < 3) then 1 else 0)), h, fl_tot) := by
  intro d hd
  rcases s148 hT b_k b_op (LVs.self (fl_enter 2 [iv k, iv op])) with ⟨f0, f1, T, K⟩ | ⟨f0, f1, f2, T, K⟩ | ⟨f0, f1, f2, f3, T, K⟩ | ⟨f0, f1, f2, f3, f4, f5, T, K⟩ | ⟨f0, f1, f2, f3, f4, f5, T, K⟩
  all_goals first | (exfalso; omega) | (refine ret_eq (K d hd) ?_; (repeat (first | rw [if_pos (by omega)] | rw [if_neg (by omega)])))
theorem SV.act {h : Hp} (hT : TInv h) (V : SV h) {cl tr op a b : Int} (q : 0 ≤ cl ∧ cl < rd 31 4 h) (qt : 0 ≤ tr ∧ tr < rd 31 0 h) (qo : 0 ≤ op ∧ op ≤ 4) (hA : (rd 32 tr h = 1 → op ≤ 1) ∧ (rd 32 tr h = 0 ∨ rd 32 tr h = 5 ∨ (rd 32 tr h = 4 ∧ op ≠ 3) → 0 ≤ a ∧ a ≤ 31)) (hn : rd 35 cl h ≤ 7) (b_a : -2147483648 ≤ a ∧ a ≤ 2147483647) :
    SV (wr 31 13 0 (wr 35 cl (rd 35 cl h + 1) (wr 40 (8 * cl + rd 35 cl h) 0 (wr 39 (8 * cl + rd 35 cl h) b (wr 38 (8 * cl + rd 35 cl h) a (wr 37 (8 * cl + rd 35 cl h) op (wr 36 (8 * cl + rd 35 cl h) tr h))))))) := by
  have b4 : 0 ≤ rd 31 4 h ∧ rd 31 4 h ≤ 5 := rdt_ok hT 31 4
  have b0 : 0 ≤ rd 31 0 h ∧ rd 31 0 h ≤ 6 := rdt_ok hT 31 0
  have b35 := rda_ok hT 35 5 0 8 rfl (i := cl) q.1 (by omega)
  have F := (((((((Fq.refl (Ks := [35, 36, 37, 38, 39, 40]) (fs := [13]) h).put 36 (8 * cl + rd 35 cl h) tr rfl).put 37 (8 * cl + rd 35 cl h) op rfl).put 38 (8 * cl + rd 35 cl h) a rfl).put 39 (8 * cl + rd 35 cl h) b rfl).put 40 (8 * cl + rd 35 cl h) 0 rfl).put 35 cl (rd 35 cl h + 1) rfl).putf 13 0 rfl
  have e36 : ∀ i, 0 ≤ i → rd 36 i (wr 31 13 0 (wr 35 cl (rd 35 cl h + 1) (wr 40 (8 * cl + rd 35 cl h) 0 (wr 39 (8 * cl + rd 35 cl h) b (wr 38 (8 * cl + rd 35 cl h) a (wr 37 (8 * cl + rd 35 cl h) op (wr 36 (8 * cl + rd 35 cl h) tr h))))))) = if i = 8 * cl + rd 35 cl h then tr else rd 36 i h := fun i hi => by simp (disch := omega) only [rdk, rd_wr]
  have e37 : ∀ i, 0 ≤ i → rd 37 i (wr 31 13 0 (wr 35 cl (rd 35 cl h + 1) (wr 40 (8 * cl + rd 35 cl h) 0 (wr 39 (8 * cl + rd 35 cl h) b (wr 38 (8 * cl + rd 35 cl h) a (wr 37 (8 * cl + rd 35 cl h) op (wr 36 (8 * cl + rd 35 cl h) tr h))))))) = if i = 8 * cl + rd 35 cl h then op else rd 37 i h := fun i hi => by simp (disch := omega) only [rdk, rd_wr]
  have e38 : ∀ i, 0 ≤ i → rd 38 i (wr 31 13 0 (wr 35 cl (rd 35 cl h + 1) (wr 40 (8 * cl + rd 35 cl h) 0 (wr 39 (8 * cl + rd 35 cl h) b (wr 38 (8 * cl + rd 35 cl h) a (wr 37 (8 * cl + rd 35 cl h) op (wr 36 (8 * cl + rd 35 cl h) tr h))))))) = if i = 8 * cl + rd 35 cl h then a else rd 38 i h := fun i hi => by simp (disch := omega) only [rdk, rd_wr]
  have e35 : ∀ i, 0 ≤ i → rd 35 i (wr 31 13 0 (wr 35 cl (rd 35 cl h + 1) (wr 40 (8 * cl + rd 35 cl h) 0 (wr 39 (8 * cl + rd 35 cl h) b (wr 38 (8 * cl + rd 35 cl h) a (wr 37 (8 * cl + rd 35 cl h) op (wr 36 (8 * cl + rd 35 cl h) tr h))))))) = if i = cl then rd 35 cl h + 1 else rd 35 i h := fun i hi => by simp (disch := omega) only [rdk, rd_wr]
  generalize wr 31 13 0 (wr 35 cl (rd 35 cl h + 1) (wr 40 (8 * cl + rd 35 cl h) 0 (wr 39 (8 * cl + rd 35 cl h) b (wr 38 (8 * cl + rd 35 cl h) a (wr 37 (8 * cl + rd 35 cl h) op (wr 36 (8 * cl + rd 35 cl h) tr h)))))) = g at *
  intro c j w1 w2 w3 w4
  rw [F.f 4 rfl] at w2
  rw [e35 c w1] at w4
  unfold actOK
  rw [e36 _ (by omega), e37 _ (by omega), e38 _ (by omega), F.f 0 rfl, F.k 32 _ rfl]
  by_cases e : c = cl ∧ j = rd 35 cl h
  · obtain ⟨rfl, rfl⟩ := e
    rw [if_pos rfl, if_pos rfl, if_pos rfl]
    exact ⟨hA, qt.2⟩
  · have hj : j < rd 35 c h := by
      split at w4
      · rename_i z; subst z; omega
      · exact w4
    have b35c := rda_ok hT 35 5 0 8 rfl (i := c) w1 (by omega)
    have hne : ¬ 8 * c + j = 8 * cl + rd 35 cl h := by omega
    rw [if_neg hne, if_neg hne, if_neg hne]
    obtain ⟨V1, V2⟩ := V c j w1 w2 w3 hj
    exact ⟨V1, V2⟩
