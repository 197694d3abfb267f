
set_option maxRecDepth 20000
/-! MOVES -/
theorem c_moves_m {t key s old k0 : Int} (b_t : 0 ≤ t ∧ t ≤ 5) (b_key : 0 ≤ key ∧ key ≤ 31) (b_s : 0 ≤ s ∧ s ≤ 23) (b_old : 0 ≤ old ∧ old ≤ 8) (b_k0 : -1 ≤ k0 ∧ k0 ≤ 31) : ∀ (n : Nat) (c : Int) (ls : List (Option Value)) (h : Hp), TInv h → 35 - c < 4 * n → (0 ≤ c ∧ c ≤ 35) → c % 4 = key % 4 →
    LVs [some (rv 31), some (iv t), some (iv key), some (iv s), some (iv old), some (iv k0), some (iv c)] ls → ∃ h', (∀ d, 3 ≤ d → Ev d 162 (137, ls, [], h, fl_tot) (none, h', fl_tot)) ∧ Nx h h' ∧ Fq [66] [] h h' ∧ ∀ i, 0 ≤ i → rd 66 i h' = if 32 * t + c ≤ i ∧ i < 32 * t + 32 ∧ (i - 32 * t) % 4 = key % 4 then 0 else rd 66 i h := by
  intro n
  induction n with
  | zero => intro c ls h hT h1 h2; omega
  | succ n ih =>
    intro c ls h hT h1 b_c h3 hl
    rcases s162m hT b_t b_key b_s b_old b_k0 b_c hl with ⟨f0, f1, T, K⟩ | ⟨n9, n10, g1, rfl, f0, f1, f2, f3, rfl, rfl, T, lv, Hl, K⟩
    · exact ⟨h, K, T, Fq.refl h, fun i hi => by rw [if_neg (by omega)]⟩
    · obtain ⟨h', w1, w2, w3, w4⟩ := ih (c + 4) lv _ T.1 (by omega) (by omega) (by omega) Hl
      refine ⟨h', fun d hd => K d _ hd (w1 d hd), T.trans w2, ((Fq.refl h).put 66 (32 * t + c) 0 rfl).trans w3, fun i hi => ?_⟩
      rw [w4 i hi, rd_wr hi (by omega) (by omega) (by omega)]
      by_cases e : i = 32 * t + c
      · rw [if_neg (by omega), if_pos e, if_pos (by omega)]
      · by_cases e2 : 32 * t + (c + 4) ≤ i ∧ i < 32 * t + 32 ∧ (i - 32 * t) % 4 = key % 4
        · rw [if_pos e2, if_pos (by omega)]
        · rw [if_neg e2, if_neg e, if_neg (by omega)]
theorem cOld_pos {h : Hp} {t s bf old k : Int} (b_s : 0 ≤ s ∧ s ≤ 3) (hnx : nxP h t s 0 old bf 32 k) (hk : k ≠ -1) : 1 ≤ cOld h t s := by
  rcases hnx with w | ⟨w1, w2, w3, w4, w5⟩
  · exact absurd w.1 hk
  · have := sumN_ge (n := 8) (f := fun j => if rd 63 (32 * t + s + 4 * j) h = 1 ∧ rd 66 (32 * t + s + 4 * j) h = 0 then 1 else 0) (j := k / 4) (fun i _ _ => by split <;> omega) (by omega) (by omega)
    unfold cOld
    rw [show 32 * t + s + 4 * (k / 4) = 32 * t + k by omega, if_pos ⟨w4.1, w4.2.1⟩] at this
    exact this
theorem cOld_dec {h H : Hp} {t s k : Int} (b_t : 0 ≤ t) (b_s : 0 ≤ s ∧ s ≤ 3) (hk : 0 ≤ k ∧ k ≤ 31) (hks : k % 4 = s) (h1 : rd 63 (32 * t + k) h = 1) (h2 : rd 66 (32 * t + k) h = 0) (e1 : ∀ i, rd 63 i H = rd 63 i h) (e2 : ∀ i, 0 ≤ i → rd 66 i H = if i = 32 * t + k then 1 else rd 66 i h) : cOld H t s = cOld h t s - 1 := by
  unfold cOld
  have hx : 32 * t + s + 4 * (k / 4) = 32 * t + k := by omega
  rw [sumN_upd (n := 8) (j := k / 4) (f := fun j => if rd 63 (32 * t + s + 4 * j) h = 1 ∧ rd 66 (32 * t + s + 4 * j) h = 0 then 1 else 0) (g := fun j => if rd 63 (32 * t + s + 4 * j) H = 1 ∧ rd 66 (32 * t + s + 4 * j) H = 0 then 1 else 0) (by omega) (by omega) (fun i q1 q2 q3 => by
    rw [e1, e2 _ (by omega), if_neg (show ¬ 32 * t + s + 4 * i = 32 * t + k by omega)])]
  simp only [hx, e1]
  rw [e2 _ (by omega), if_pos rfl, if_pos ⟨h1, h2⟩, if_neg (by omega)]
  omega
theorem c_moves_e {t key old : Int} (b_t : 0 ≤ t ∧ t ≤ 5) (b_key : 0 ≤ key ∧ key ≤ 31) (b_old : 0 ≤ old ∧ old ≤ 8) (ls : List (Option Value)) (h : Hp) (hT : TInv h) (M : MP h) (hg : rd 75 (4 * t + key % 4) h = 1) (hn : rd 76 (4 * t + key % 4) h = old)
    (hl : LVs [some (rv 31), some (iv t), some (iv key), some (iv (4 * t + key % 4)), some (iv old), some (iv (-1)), none] ls) : ∃ h', (∀ d, 3 ≤ d → Ev d 162 (38, ls, [], h, fl_tot) (none, h', fl_tot)) ∧ Nx h h' ∧ Fq [65, 66, 67, 74, 75, 76, 78] [42] h h' ∧ MP h' ∧ rd 31 42 h' = rd 31 42 h := by
  have hrow := M.1 (4 * t + key % 4) (by omega) (by omega)
  have hgrow := hrow.2 hg
  have b_s : 0 ≤ 4 * t + key % 4 ∧ 4 * t + key % 4 ≤ 23 := by omega
  generalize hs : 4 * t + key % 4 = s at *
  have h8 : rd 74 s (wr 76 s (rd 76 s h + 1) h) = rd 74 s h := by simp (disch := omega) only [rdk]
  have h9 : rd 76 s (wr 76 s (rd 76 s h + 1) h) = rd 76 s h + 1 := rd_eq (by omega) (by omega)
  rcases s162l hT b_t b_key b_s b_old (k := -1) (by omega) hl with ⟨nextOld8, f0, f1, f2, rfl, f4⟩ | ⟨nextOld8, nextOld9, rows11, g1, rfl, f0, f1, f2, f3, f4, rfl, rfl, rfl, f8, T, K⟩ | ⟨nextOld8, nextOld9, rows11, rows12, n13, g1, rfl, f0, f1, f2, f3, f4, f5, f6, rfl, rfl, rfl, f10, rfl, rfl, f13⟩ | ⟨nextOld8, nextOld9, rows11, rows12, n13, g1, rfl, f0, f1, f2, f3, f4, f5, f6, rfl, rfl, rfl, f10, rfl, rfl, f13⟩ | ⟨nextOld8, nextOld9, rows11, rows12, n13, n15, g1, g2, g3, rfl, rfl, rfl, f0, f1, f2, f3, f4, f5, f6, f7, rfl, rfl, rfl, f11, rfl, rfl, rfl, T, lv, Hl, K⟩ | ⟨rows8, n9, f0, f1, f2, f3, rfl, rfl, f6⟩ | ⟨rows8, n9, n10, n11, stamps12, f0, f1, f2, f3, f4, f5, f6, rfl, rfl, rfl, rfl, rfl, f12⟩ | ⟨rows8, n9, n10, n11, stamps12, f0, f1, f2, f3, f4, f5, f6, rfl, rfl, rfl, rfl, rfl, f12⟩ | ⟨rows8, n9, n10, n11, stamps12, n16, g1, g2, g3, rfl, rfl, rfl, f0, f1, f2, f3, f4, f5, f6, f7, rfl, rfl, rfl, rfl, rfl, f13, rfl, f15⟩ | ⟨rows8, n9, n10, n11, stamps12, n16, n17, moved19, n20, n21, g1, g2, g3, g4, g5, rfl, rfl, rfl, rfl, rfl, f0, f1, f2, f3, f4, f5, f6, f7, f8, f9, f10, f11, rfl, rfl, rfl, rfl, rfl, f17, rfl, rfl, rfl, rfl, T, lv, Hl, K⟩
  all_goals first | (exfalso; omega) | skip
  · refine ⟨_, K, T, (Fq.refl h).put 76 s _ rfl, ⟨fun s' q1 q2 => ?_, fun t' k' q1 q2 q3 q4 q5 q6 q7 => ?_, fun t' k' k2 q1 q2 q3 q4 q5 q6 q7 q8 q9 q10 q11 q12 => ?_⟩, ?_⟩
    · have hm := M.1 s' q1 q2
      simp (disch := omega) only [rdk, rd_wr]
      by_cases e : s' = s
      · subst e
        rw [if_pos rfl]
        exact ⟨hm.1, fun z => ⟨(hm.2 z).1, by omega⟩⟩
      · rw [if_neg e]
        exact hm
    · simp (disch := omega) only [rdk] at q3 q7
      have := M.2.1 t' k' q1 q2 q3 q4 q5 q6 q7
      unfold cardOK at this ⊢
      simp (disch := omega) only [rdk]
      exact this
    · simp (disch := omega) only [rdk] at q3 q11 q12 ⊢
      exact M.2.2 t' k' k2 q1 q2 q3 q4 q5 q6 q7 q8 q9 q10 q11 q12
    · simp (disch := omega) only [rdk]
  · obtain ⟨h', w1, w2, w3, w4⟩ := c_moves_m b_t b_key b_s b_old (k0 := -1) (by omega) 9 (key % 4) lv _ T.1 (by omega) (by omega) (by omega) Hl
    have F1 := (((((Fq.refl (Ks := [74, 75, 76]) (fs := []) h).put 76 s (rd 76 s h + 1) rfl).put 74 s (2 * rd 74 s (wr 76 s (rd 76 s h + 1) h)) rfl).put 75 s 0 rfl).wide (Ks' := [66, 74, 75, 76]) (fs' := []) rfl rfl).trans (w3.wide (Ks' := [66, 74, 75, 76]) (fs' := []) rfl rfl)
    have e74 : ∀ i, 0 ≤ i → rd 74 i h' = if i = s then 2 * rd 74 s h else rd 74 i h := fun i hi => by
      rw [w3.k 74 i rfl, h8]
      simp (disch := omega) only [rdk, rd_wr]
    have e75 : ∀ i, 0 ≤ i → rd 75 i h' = if i = s then 0 else rd 75 i h := fun i hi => by
      rw [w3.k 75 i rfl]
      simp (disch := omega) only [rdk, rd_wr]
    have e76 : ∀ i, 0 ≤ i → i ≠ s → rd 76 i h' = rd 76 i h := fun i hi hne => by
      rw [w3.k 76 i rfl]
      simp (disch := omega) only [rdk, rd_wr]
      rw [if_neg hne]
    have e66 : ∀ i, 0 ≤ i → rd 66 i h' = if 32 * t + key % 4 ≤ i ∧ i < 32 * t + 32 ∧ (i - 32 * t) % 4 = key % 4 then 0 else rd 66 i h := fun i hi => by
      rw [w4 i hi]
      simp (disch := omega) only [rdk]
    have e32 : ∀ i, rd 32 i h' = rd 32 i h := fun i => F1.k 32 i rfl
    have e63 : ∀ i, rd 63 i h' = rd 63 i h := fun i => F1.k 63 i rfl
    have e65 : ∀ i, rd 65 i h' = rd 65 i h := fun i => F1.k 65 i rfl
    have e67 : ∀ i, rd 67 i h' = rd 67 i h := fun i => F1.k 67 i rfl
    have e42 : rd 31 42 h' = rd 31 42 h := F1.f 42 rfl
    refine ⟨h', fun d hd => K d _ hd (w1 d hd), T.trans w2, F1.wide rfl rfl, ⟨fun s' q1 q2 => ?_, fun t' k' q1 q2 q3 q4 q5 q6 q7 => ?_, fun t' k' k2 q1 q2 q3 q4 q5 q6 q7 q8 q9 q10 q11 q12 => ?_⟩, e42⟩
    · have hm := M.1 s' q1 q2
      rw [e74 s' q1, e75 s' q1]
      by_cases e : s' = s
      · rw [if_pos e, if_pos e]
        exact ⟨by omega, fun z => by omega⟩
      · rw [if_neg e, if_neg e, e76 s' q1 e]
        exact hm
    · rw [e32] at q3
      rw [e63] at q7
      have hm := M.2.1 t' k' q1 q2 q3 q4 q5 q6 q7
      have b66 := rda_ok hT 66 192 0 1 rfl (i := 32 * t' + k') (by omega) (by omega)
      unfold cardOK at hm ⊢
      rw [e66 _ (by omega), e65, e67, e42, e74 _ (by omega), e75 _ (by omega)]
      by_cases e : 4 * t' + k' % 4 = s
      · have et : t' = t := by omega
        subst et
        rw [e] at hm
        rw [if_pos (by omega), if_pos e]
        refine ⟨fun _ => ?_, fun z => by omega, hm.2.2⟩
        by_cases z : rd 66 (32 * t' + k') h = 0
        · have := hm.1 z; omega
        · exact (hm.2.1 (by omega)).2
      · rw [if_neg (by omega), if_neg e, if_neg e]
        exact hm
    · rw [e32] at q3
      rw [e63] at q11 q12
      rw [e67, e67]
      exact M.2.2 t' k' k2 q1 q2 q3 q4 q5 q6 q7 q8 q9 q10 q11 q12
theorem c_moves_l {t key old : Int} (b_t : 0 ≤ t ∧ t ≤ 5) (b_key : 0 ≤ key ∧ key ≤ 31) (b_old : 0 ≤ old ∧ old ≤ 8) : ∀ (m : Nat) (k : Int) (ls : List (Option Value)) (h : Hp), TInv h → MP h → rd 32 t h = 0 → rd 75 (4 * t + key % 4) h = 1 → rd 76 (4 * t + key % 4) h = old → 0 ≤ rd 31 42 h → rd 31 42 h + m ≤ 99999 → nxP h t (key % 4) 0 old (rd 31 42 h + 1) 32 k → cOld h t (key % 4) ≤ m →
    LVs [some (rv 31), some (iv t), some (iv key), some (iv (4 * t + key % 4)), some (iv old), some (iv k), none] ls → ∃ h', (∀ d, 5 ≤ d → Ev d 162 (38, ls, [], h, fl_tot) (none, h', fl_tot)) ∧ Nx h h' ∧ Fq [65, 66, 67, 74, 75, 76, 78] [42] h h' ∧ MP h' ∧ rd 31 42 h ≤ rd 31 42 h' ∧ rd 31 42 h' ≤ rd 31 42 h + m := by
  intro m
  induction m with
  | zero =>
    intro k ls h hT M hk0 hg hn hs1 hs2 hnx hc hl
    have hk : k = -1 := by
      by_cases z : k = -1
      · exact z
      · have := cOld_pos (by omega) hnx z
        omega
    subst hk
    obtain ⟨h', w1, w2, w3, w4, w5⟩ := c_moves_e b_t b_key b_old ls h hT M hg hn hl
    exact ⟨h', fun d hd => w1 d (by omega), w2, w3, w4, by omega, by omega⟩
  | succ m ih =>
    intro k ls h hT M hk0 hg hn hs1 hs2 hnx hc hl
    by_cases hk : k = -1
    · subst hk
      obtain ⟨h', w1, w2, w3, w4, w5⟩ := c_moves_e b_t b_key b_old ls h hT M hg hn hl
      exact ⟨h', fun d hd => w1 d (by omega), w2, w3, w4, by omega, by omega⟩
    · have b_k : 0 ≤ k ∧ k ≤ 31 := by rcases hnx with w | w <;> omega
      have hin : k % 4 = key % 4 ∧ inRow h t 0 old (rd 31 42 h + 1) k := by
        rcases hnx with w | w
        · exact absurd w.1 hk
        · exact ⟨w.2.2.1, w.2.2.2.1⟩
      obtain ⟨hin1, hin2, hin3, hin4, hin5⟩ := hin
      have hrow := M.1 (4 * t + key % 4) (by omega) (by omega)
      have hgrow := hrow.2 hg
      rcases s162l hT b_t b_key (s := 4 * t + key % 4) (by omega) b_old (k := k) (by omega) hl with ⟨nextOld8, f0, f1, f2, rfl, f4⟩ | ⟨nextOld8, nextOld9, rows11, g1, rfl, f0, f1, f2, f3, f4, rfl, rfl, rfl, f8, T, K⟩ | ⟨nextOld8, nextOld9, rows11, rows12, n13, g1, rfl, f0, f1, f2, f3, f4, f5, f6, rfl, rfl, rfl, f10, rfl, rfl, f13⟩ | ⟨nextOld8, nextOld9, rows11, rows12, n13, g1, rfl, f0, f1, f2, f3, f4, f5, f6, rfl, rfl, rfl, f10, rfl, rfl, f13⟩ | ⟨nextOld8, nextOld9, rows11, rows12, n13, n15, g1, g2, g3, rfl, rfl, rfl, f0, f1, f2, f3, f4, f5, f6, f7, rfl, rfl, rfl, f11, rfl, rfl, rfl, T, lv, Hl, K⟩ | ⟨rows8, n9, f0, f1, f2, f3, rfl, rfl, f6⟩ | ⟨rows8, n9, n10, n11, stamps12, f0, f1, f2, f3, f4, f5, f6, rfl, rfl, rfl, rfl, rfl, f12⟩ | ⟨rows8, n9, n10, n11, stamps12, f0, f1, f2, f3, f4, f5, f6, rfl, rfl, rfl, rfl, rfl, f12⟩ | ⟨rows8, n9, n10, n11, stamps12, n16, g1, g2, g3, rfl, rfl, rfl, f0, f1, f2, f3, f4, f5, f6, f7, rfl, rfl, rfl, rfl, rfl, f13, rfl, f15⟩ | ⟨rows8, n9, n10, n11, stamps12, n16, n17, moved19, n20, n21, g1, g2, g3, g4, g5, rfl, rfl, rfl, rfl, rfl, f0, f1, f2, f3, f4, f5, f6, f7, f8, f9, f10, f11, rfl, rfl, rfl, rfl, rfl, f17, rfl, rfl, rfl, rfl, T, lv, Hl, K⟩
      all_goals first | (exfalso; omega) | skip
      have hro : 0 ≤ k / 4 % (2 * rd 74 (4 * t + key % 4) h) ∧ k / 4 % (2 * rd 74 (4 * t + key % 4) h) < 2 * rd 74 (4 * t + key % 4) h := ⟨Int.emod_nonneg _ (by omega), Int.emod_lt_of_pos _ (by omega)⟩
      have F5 := ((((((Fq.refl (Ks := [65, 66, 67, 78]) (fs := [42]) h).putf 42 (rd 31 42 h + 1) rfl).put 67 (32 * t + k) (rd 31 42 h + 1) rfl).put 66 (32 * t + k) 1 rfl).put 65 (32 * t + k) (k / 4 % (2 * rd 74 (4 * t + key % 4) h)) rfl).put 78 t n20 rfl)
      have M5 : MP (wr 78 t n20 _) := ((M.x t k).head (fr := 1) (ro := k / 4 % (2 * rd 74 (4 * t + key % 4) h)) b_t (by omega) (by omega) (by omega) (by omega) (fun z => by omega) (fun _ => by rw [hin1]; exact ⟨hg, hro.2⟩)).fr ((Fq.refl (Ks := [78]) (fs := []) _).put 78 t n20 rfl) rfl
      have E66 : ∀ i, 0 ≤ i → rd 66 i (wr 78 t n20 (wr 65 (32 * t + k) (k / 4 % (2 * rd 74 (4 * t + key % 4) h)) (wr 66 (32 * t + k) 1 (wr 67 (32 * t + k) (rd 31 42 h + 1) (wr 31 42 (rd 31 42 h + 1) h))))) = if i = 32 * t + k then 1 else rd 66 i h := fun i hi => by
        simp (disch := omega) only [rdk, rd_wr]
      have E42 : rd 31 42 (wr 78 t n20 (wr 65 (32 * t + k) (k / 4 % (2 * rd 74 (4 * t + key % 4) h)) (wr 66 (32 * t + k) 1 (wr 67 (32 * t + k) (rd 31 42 h + 1) (wr 31 42 (rd 31 42 h + 1) h))))) = rd 31 42 h + 1 := by
        simp (disch := omega) only [rdk, rd_wr, if_true]
      generalize wr 78 t n20 (wr 65 (32 * t + k) (k / 4 % (2 * rd 74 (4 * t + key % 4) h)) (wr 66 (32 * t + k) 1 (wr 67 (32 * t + k) (rd 31 42 h + 1) (wr 31 42 (rd 31 42 h + 1) h)))) = H at *
      obtain ⟨v, w1, w2⟩ := c_headOf T.1 (t := t) (s := key % 4) (fr := 0) (r := old) b_t (by omega) (by omega) b_old (by omega)
      have K1 := K
      have T1 := T
      have dec := cOld_dec (t := t) (s := key % 4) (k := k) (h := h) (H := H) (by omega) (by omega) b_k hin1 hin2 hin3 (fun i => F5.k 63 i rfl) E66
      obtain ⟨T, lv, Hl, K⟩ := s162b T.1 b_t b_key (s := 4 * t + key % 4) (by omega) b_old (k0 := k) (by omega) (v := v) (by rcases w1 with w | w <;> omega) Hl
      obtain ⟨h', u1, u2, u3, u4, u5, u6⟩ := ih v lv H T1.1 M5 (by rw [F5.k 32 t rfl]; exact hk0) (by rw [F5.k 75 _ rfl]; exact hg) (by rw [F5.k 76 _ rfl]; exact hn) (by omega) (by omega) w1 (by omega) Hl
      refine ⟨h', fun d hd => ?_, T1.trans u2, (F5.wide rfl rfl).trans u3, u4, by omega, by omega⟩
      obtain ⟨d, rfl⟩ : ∃ d', d = d' + 1 := ⟨d - 1, by omega⟩
      exact K1 d _ _ _ (by omega) (w2 d (by omega)) (K (d + 1) _ (by omega) (u1 (d + 1) (by omega)))
theorem c_moves {h : Hp} (hT : TInv h) {t key : Int} (b_t : 0 ≤ t ∧ t ≤ 5) (b_key : 0 ≤ key ∧ key ≤ 31) (M : MP h) (hk0 : rd 32 t h = 0) (hs : 0 ≤ rd 31 42 h ∧ rd 31 42 h ≤ 90000) : ∃ h', (∀ d, 5 ≤ d → Ev d 162 (0, fl_enter 7 [rv 31, iv t, iv key], [], h, fl_tot) (none, h', fl_tot)) ∧ Nx h h' ∧ Fq [65, 66, 67, 74, 75, 76, 78] [42] h h' ∧ MP h' ∧ rd 31 42 h ≤ rd 31 42 h' ∧ rd 31 42 h' ≤ rd 31 42 h + 8 := by
  rcases s162 hT b_t b_key (LVs.self (fl_enter 7 [rv 31, iv t, iv key])) with ⟨n4, n5, n6, grows8, nextOld10, n11, f0, f1, f2, f3, f4, f5, rfl, rfl, rfl, rfl, f10, rfl, rfl, T, lv, Hl, K⟩ | ⟨n4, n5, n6, grows8, f0, f1, f2, f3, rfl, rfl, rfl, rfl, f8, T, K⟩
  · obtain ⟨v, w1, w2⟩ := c_headOf T.1 (t := t) (s := key % 4) (fr := 0) (r := rd 76 (4 * t + key % 4) h) b_t (by omega) (by omega) (by omega) (by omega)
    have hv : -1 ≤ v ∧ v ≤ 31 := by rcases w1 with w | w <;> omega
    have K1 := K
    have T1 := T
    have hg : rd 75 (4 * t + key % 4) h = 1 := by omega
    obtain ⟨T, lv, Hl, K⟩ := s162a T.1 b_t b_key (s := 4 * t + key % 4) (by omega) (old := rd 76 (4 * t + key % 4) h) (by omega) (v := v) hv Hl
    have cb := cOld_bd h t (key % 4)
    obtain ⟨h', u1, u2, u3, u4, u5, u6⟩ := c_moves_l b_t b_key (old := rd 76 (4 * t + key % 4) h) (by omega) 8 v lv h hT M hk0 hg rfl hs.1 (by omega) w1 (by omega) Hl
    refine ⟨h', fun d hd => ?_, u2, u3, u4, u5, by omega⟩
    obtain ⟨d, rfl⟩ : ∃ d', d = d' + 1 := ⟨d - 1, by omega⟩
    exact K1 d _ _ _ (by omega) (w2 d (by omega)) (K (d + 1) _ (by omega) (u1 (d + 1) (by omega)))
  · exact ⟨h, fun d hd => K d (by omega), T, Fq.refl h, M, by omega, by omega⟩
