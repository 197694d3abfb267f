
set_option maxRecDepth 20000
/-! PUTS -/
theorem c_puts_b {h : Hp} (hT : TInv h) {ls : List (Option Value)} {t key v c s n : Int} (b_t : 0 ≤ t ∧ t ≤ 5) (b_key : 0 ≤ key ∧ key ≤ 31) (b_v : -2147483648 ≤ v ∧ v ≤ 2147483647) (b_c : 0 ≤ c ∧ c ≤ 191) (b_s : 0 ≤ s ∧ s ≤ 23) (b_n : 0 ≤ n ∧ n ≤ 8) (M : MP h) (hg : rd 75 s h = 0) (hl : LVs [some (rv 31), some (iv t), some (iv key), some (iv v), some (iv c), some (iv s)] ls) : ∃ h', (∀ d, 3 ≤ d → Ev d 170 (120, ls, [iv n], h, fl_tot) (none, h', fl_tot)) ∧ Nx h h' ∧ Fq [75, 76, 77] [] h h' ∧ MP h' := by
  rcases s170b hT b_t b_key b_v b_c b_s b_n hl with ⟨rows9, n10, f0, f1, rfl, rfl, f4, T, K⟩ | ⟨rows9, n10, grew14, n15, g1, g2, g3, rfl, rfl, rfl, f0, f1, f2, f3, f4, rfl, rfl, f7, rfl, T, K⟩
  · exact ⟨h, K, T, Fq.refl h, M⟩
  · have F : Fq [75, 76, 77] [] h (wr 77 t n15 (wr 76 s 0 (wr 75 s 1 h))) := (((Fq.refl h).put 75 s 1 rfl).put 76 s 0 rfl).put 77 t n15 rfl
    refine ⟨_, K, T, F, ⟨fun s' q1 q2 => ?_, fun t' k' q1 q2 q3 q4 q5 q6 q7 => ?_, fun t' k' k2 q1 q2 q3 q4 q5 q6 q7 q8 q9 q10 q11 q12 => ?_⟩⟩
    · have hm := M.1 s' q1 q2
      simp (disch := omega) only [rdk, rd_wr]
      by_cases e : s' = s
      · subst e
        rw [if_pos rfl, if_pos rfl]
        exact ⟨hm.1, fun _ => by omega⟩
      · rw [if_neg e, if_neg e]
        exact hm
    · simp (disch := omega) only [rdk] at q3 q7
      have := M.2.1 t' k' q1 q2 q3 q4 q5 q6 q7
      unfold cardOK at this ⊢
      simp (disch := omega) only [rdk, rd_wr]
      refine ⟨this.1, fun z => ?_, this.2.2⟩
      have := this.2.1 z
      by_cases e : 4 * t' + k' % 4 = s
      · rw [if_pos e]; exact ⟨rfl, this.2⟩
      · rw [if_neg e]; exact this
    · simp (disch := omega) only [rdk] at q3 q11 q12 ⊢
      exact M.2.2 t' k' k2 q1 q2 q3 q4 q5 q6 q7 q8 q9 q10 q11 q12
theorem c_puts_a {h : Hp} (hT : TInv h) {ls : List (Option Value)} {t key v : Int} (b_t : 0 ≤ t ∧ t ≤ 5) (b_key : 0 ≤ key ∧ key ≤ 31) (b_v : -2147483648 ≤ v ∧ v ≤ 2147483647) (M : MPx h t key) (hs : 0 ≤ rd 31 42 h ∧ rd 31 42 h ≤ 99999) (hl : LVs [some (rv 31), some (iv t), some (iv key), some (iv v), some (iv (32 * t + key)), some (iv (4 * t + key % 4))] ls) : ∃ h', (∀ d, 4 ≤ d → Ev d 170 (60, ls, [], h, fl_tot) (none, h', fl_tot)) ∧ Nx h h' ∧ Fq [65, 66, 67, 75, 76, 77] [42] h h' ∧ MP h' ∧ rd 31 42 h' = rd 31 42 h + 1 := by
  have hrow := M.1 (4 * t + key % 4) (by omega) (by omega)
  have F (fr ro : Int) := ((((Fq.refl (Ks := [65, 66, 67]) (fs := [42]) h).putf 42 (rd 31 42 h + 1) rfl).put 67 (32 * t + key) (rd 31 42 h + 1) rfl).put 66 (32 * t + key) fr rfl).put 65 (32 * t + key) ro rfl
  have E42 (fr ro : Int) : rd 31 42 (wr 65 (32 * t + key) ro (wr 66 (32 * t + key) fr (wr 67 (32 * t + key) (rd 31 42 h + 1) (wr 31 42 (rd 31 42 h + 1) h)))) = rd 31 42 h + 1 := by
    simp (disch := omega) only [rdk, rd_wr, if_true]
  rcases s170a hT b_t b_key b_v (c := 32 * t + key) (by omega) (s := 4 * t + key % 4) (by omega) hl with ⟨grows8, grows9, rows11, f0, f1, f2, rfl, rfl, f5, rfl, f7⟩ | ⟨grows8, grows9, rows11, n12, n13, stamps14, f0, f1, f2, f3, f4, f5, rfl, rfl, f8, rfl, rfl, rfl, rfl, f13⟩ | ⟨grows8, grows9, rows11, n12, n13, stamps14, f0, f1, f2, f3, f4, f5, rfl, rfl, f8, rfl, rfl, rfl, rfl, f13⟩ | ⟨grows8, grows9, rows11, n12, n13, stamps14, n18, g1, g2, g3, rfl, rfl, rfl, f0, f1, f2, f3, f4, f5, f6, rfl, rfl, f9, rfl, rfl, rfl, rfl, f14, rfl, f16⟩ | ⟨grows8, grows9, rows11, n12, n13, stamps14, n18, n19, grows20, g1, g2, g3, g4, rfl, rfl, rfl, rfl, f0, f1, f2, f3, f4, f5, f6, f7, f8, rfl, rfl, f11, rfl, rfl, rfl, rfl, f16, rfl, rfl, rfl, f20, T, K⟩ | ⟨grows8, grows9, rows11, n12, n13, stamps14, n18, n19, grows20, n21, g1, g2, g3, g4, rfl, rfl, rfl, rfl, f0, f1, f2, f3, f4, f5, f6, f7, f8, f9, rfl, rfl, f12, rfl, rfl, rfl, rfl, f17, rfl, rfl, rfl, f21, rfl, T, lv, Hl, K⟩ | ⟨grows8, grows9, rows11, n12, f0, f1, f2, f3, rfl, rfl, f6, rfl, rfl, f9⟩ | ⟨grows8, grows9, rows11, n12, n13, n14, stamps15, f0, f1, f2, f3, f4, f5, f6, rfl, rfl, f9, rfl, rfl, rfl, rfl, rfl, f15⟩ | ⟨grows8, grows9, rows11, n12, n13, n14, stamps15, f0, f1, f2, f3, f4, f5, f6, rfl, rfl, f9, rfl, rfl, rfl, rfl, rfl, f15⟩ | ⟨grows8, grows9, rows11, n12, n13, n14, stamps15, n19, g1, g2, g3, rfl, rfl, rfl, f0, f1, f2, f3, f4, f5, f6, f7, rfl, rfl, f10, rfl, rfl, rfl, rfl, rfl, f16, rfl, f18⟩ | ⟨grows8, grows9, rows11, n12, n13, n14, stamps15, n19, n20, grows21, g1, g2, g3, g4, rfl, rfl, rfl, rfl, f0, f1, f2, f3, f4, f5, f6, f7, f8, f9, rfl, rfl, f12, rfl, rfl, rfl, rfl, rfl, f18, rfl, rfl, rfl, f22, T, K⟩ | ⟨grows8, grows9, rows11, n12, n13, n14, stamps15, n19, n20, grows21, n22, g1, g2, g3, g4, rfl, rfl, rfl, rfl, f0, f1, f2, f3, f4, f5, f6, f7, f8, f9, f10, rfl, rfl, f13, rfl, rfl, rfl, rfl, rfl, f19, rfl, rfl, rfl, f23, rfl, T, lv, Hl, K⟩
  all_goals first | (exfalso; omega) | skip
  · exfalso
    simp (disch := omega) only [rdk] at f20
    omega
  · have hro : 0 ≤ key / 4 % rd 74 (4 * t + key % 4) h ∧ key / 4 % rd 74 (4 * t + key % 4) h < rd 74 (4 * t + key % 4) h := ⟨Int.emod_nonneg _ (by omega), Int.emod_lt_of_pos _ (by omega)⟩
    have M1 := M.head (fr := rd 75 (4 * t + key % 4) h) (ro := key / 4 % rd 74 (4 * t + key % 4) h) b_t (by omega) hs (by omega) (by omega) (fun _ => hro.2) (fun z => by omega)
    have F1 := F (rd 75 (4 * t + key % 4) h) (key / 4 % rd 74 (4 * t + key % 4) h)
    have E1 := E42 (rd 75 (4 * t + key % 4) h) (key / 4 % rd 74 (4 * t + key % 4) h)
    generalize wr 65 (32 * t + key) (key / 4 % rd 74 (4 * t + key % 4) h) (wr 66 (32 * t + key) (rd 75 (4 * t + key % 4) h) (wr 67 (32 * t + key) (rd 31 42 h + 1) (wr 31 42 (rd 31 42 h + 1) h))) = H at *
    obtain ⟨n, n1, n2⟩ := c_cardsIn T.1 (t := t) (s := key % 4) b_t (by omega)
    obtain ⟨h', u1, u2, u3, u4⟩ := c_puts_b T.1 (n := n) b_t b_key b_v (c := 32 * t + key) (by omega) (s := 4 * t + key % 4) (by omega) n1 M1 f21 Hl
    refine ⟨h', fun d hd => ?_, T.trans u2, (F1.wide rfl rfl).trans (u3.wide rfl rfl), u4, by rw [u3.f 42 rfl]; exact E1⟩
    obtain ⟨d, rfl⟩ : ∃ d', d = d' + 1 := ⟨d - 1, by omega⟩
    exact K d _ _ _ (by omega) (n2 d (by omega)) (u1 (d + 1) (by omega))
  · have hg : rd 75 (4 * t + key % 4) h = 1 := by omega
    have hro : 0 ≤ key / 4 % (2 * rd 74 (4 * t + key % 4) h) ∧ key / 4 % (2 * rd 74 (4 * t + key % 4) h) < 2 * rd 74 (4 * t + key % 4) h := ⟨Int.emod_nonneg _ (by omega), Int.emod_lt_of_pos _ (by omega)⟩
    have M1 := M.head (fr := rd 75 (4 * t + key % 4) h) (ro := key / 4 % (2 * rd 74 (4 * t + key % 4) h)) b_t (by omega) hs (by omega) (by omega) (fun z => by omega) (fun _ => ⟨hg, hro.2⟩)
    exact ⟨_, fun d hd => K d (by omega), T, (F _ _).wide rfl rfl, M1, E42 _ _⟩
  · exfalso
    simp (disch := omega) only [rdk] at f23
    omega
theorem MPx.full {h : Hp} {t key : Int} (M : MPx h t key) (hx : rd 32 t h ≠ 0 ∨ (rd 63 (32 * t + key) h = 1 → cardOK h t key ∧ ∀ k', 0 ≤ k' → k' < 32 → k' ≠ key → rd 63 (32 * t + k') h = 1 → rd 67 (32 * t + key) h ≠ rd 67 (32 * t + k') h)) : MP h := by
  refine ⟨M.1, fun t' k' q1 q2 q3 q4 q5 _ q7 => ?_, fun t' k' k2 q1 q2 q3 q4 q5 q6 q7 q8 _ _ q11 q12 => ?_⟩
  · by_cases e : t' = t ∧ k' = key
    · obtain ⟨rfl, rfl⟩ := e
      exact ((hx.resolve_left fun z => z q3) q7).1
    · exact M.2.1 t' k' q1 q2 q3 q4 q5 e q7
  · by_cases e : t' = t ∧ k' = key
    · obtain ⟨rfl, rfl⟩ := e
      exact ((hx.resolve_left fun z => z q3) q11).2 k2 q6 q7 (fun z => q8 z.symm) q12
    · by_cases e2 : t' = t ∧ k2 = key
      · obtain ⟨rfl, rfl⟩ := e2
        exact fun z => ((hx.resolve_left fun z => z q3) q12).2 k' q4 q5 q8 q11 z.symm
      · exact M.2.2 t' k' k2 q1 q2 q3 q4 q5 q6 q7 q8 e e2 q11 q12
theorem MP.has {h : Hp} {t key v : Int} (M : MP h) (ht : 0 ≤ t) (hk : 0 ≤ key ∧ key < 32) : MPx (wr 63 (32 * t + key) 1 (wr 64 (32 * t + key) v h)) t key := by
  refine ⟨fun s' q1 q2 => ?_, fun t' k' q1 q2 q3 q4 q5 q6 q7 => ?_, fun t' k' k2 q1 q2 q3 q4 q5 q6 q7 q8 q9 q10 q11 q12 => ?_⟩
  · simp (disch := omega) only [rdk]
    exact M.1 s' q1 q2
  · simp (disch := omega) only [rdk, rd_wr] at q3 q7
    rw [if_neg (by omega)] at q7
    have := M.2.1 t' k' q1 q2 q3 q4 q5 (by omega) q7
    unfold cardOK at this ⊢
    simp (disch := omega) only [rdk]
    exact this
  · simp (disch := omega) only [rdk, rd_wr] at q3 q11 q12 ⊢
    rw [if_neg (by omega)] at q11 q12
    exact M.2.2 t' k' k2 q1 q2 q3 q4 q5 q6 q7 q8 (by omega) (by omega) q11 q12
theorem c_puts {h : Hp} (hT : TInv h) {t key v : Int} (b_t : 0 ≤ t ∧ t ≤ 5) (b_key : 0 ≤ key ∧ key ≤ 31) (b_v : -2147483648 ≤ v ∧ v ≤ 2147483647) (M : MP h) (hs : 0 ≤ rd 31 42 h ∧ rd 31 42 h ≤ 99999) : ∃ h', (∀ d, 4 ≤ d → Ev d 170 (0, fl_enter 6 [rv 31, iv t, iv key, iv v], [], h, fl_tot) (none, h', fl_tot)) ∧ Nx h h' ∧ Fq [63, 64, 65, 66, 67, 75, 76, 77] [42] h h' ∧ MP h' ∧ rd 31 42 h ≤ rd 31 42 h' ∧ rd 31 42 h' ≤ rd 31 42 h + 1 ∧ ∀ i, 0 ≤ i → rd 63 i h' = if i = 32 * t + key then 1 else rd 63 i h := by
  have F := ((Fq.refl (Ks := [63, 64]) (fs := []) h).put 64 (32 * t + key) v rfl).put 63 (32 * t + key) 1 rfl
  have M1 := M.has (v := v) b_t.1 (key := key) (by omega)
  have E63 : ∀ i, 0 ≤ i → rd 63 i (wr 63 (32 * t + key) 1 (wr 64 (32 * t + key) v h)) = if i = 32 * t + key then 1 else rd 63 i h := fun i hi => by
    simp (disch := omega) only [rdk, rd_wr]
  rcases s170 hT b_t b_key b_v (LVs.self (fl_enter 6 [rv 31, iv t, iv key, iv v])) with ⟨n5, n6, has9, g1, g2, rfl, rfl, f0, f1, f2, rfl, rfl, rfl, f6, T, K⟩ | ⟨n5, n6, has9, kind11, n12, n13, n14, g1, g2, rfl, rfl, f0, f1, f2, f3, f4, f5, f6, rfl, rfl, rfl, f10, rfl, f12, rfl, rfl, rfl, T, lv, Hl, K⟩ | ⟨n5, n6, has9, kind11, g1, g2, rfl, rfl, f0, f1, f2, f3, rfl, rfl, rfl, f7, rfl, f9, T, K⟩
  · refine ⟨_, fun d hd => K d (by omega), T, F.wide rfl rfl, M1.full ?_, by rw [F.f 42 rfl]; omega, by rw [F.f 42 rfl]; omega, E63⟩
    simp (disch := omega) only [rdk] at f2
    by_cases hk0 : rd 32 t h = 0
    · refine Or.inr fun _ => ?_
      have hc := M.2.1 t key b_t.1 b_t.2 hk0 (by omega) (by omega) (by omega) (by omega)
      unfold cardOK at hc ⊢
      simp (disch := omega) only [rdk]
      refine ⟨hc, fun k' q1 q2 q3 q4 => ?_⟩
      rw [E63 _ (by omega), if_neg (by omega)] at q4
      exact M.2.2 t key k' b_t.1 b_t.2 hk0 (by omega) (by omega) q1 q2 (fun z => q3 z.symm) (by omega) (by omega) (by omega) q4
    · refine Or.inl ?_
      simp (disch := omega) only [rdk]
      exact hk0
  · have K1 := K
    have T1 := T
    obtain ⟨h', u1, u2, u3, u4, u5⟩ := c_puts_a T.1 b_t b_key b_v M1 (by rw [F.f 42 rfl]; omega) Hl
    refine ⟨h', fun d hd => K1 d _ (by omega) (u1 d hd), T1.trans u2, (F.wide rfl rfl).trans (u3.wide rfl rfl), u4, by rw [u5, F.f 42 rfl]; omega, by rw [u5, F.f 42 rfl]; omega, fun i hi => ?_⟩
    rw [u3.k 63 i rfl]
    exact E63 i hi
  · refine ⟨_, fun d hd => K d (by omega), T, F.wide rfl rfl, M1.full (Or.inl ?_), by rw [F.f 42 rfl]; omega, by rw [F.f 42 rfl]; omega, E63⟩
    simp (disch := omega) only [rdk] at f9 ⊢
    exact f9
