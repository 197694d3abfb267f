
set_option maxRecDepth 20000
/-! WRITING -/
theorem MP.sub {Ks : List Nat} {fs : List Int} {h h' : Hp} (x : Fq Ks fs h h') (hc : ([32, 65, 66, 67, 74, 75, 76].all (fun K => !Ks.contains K) && !fs.contains 42) = true) (M : MP h) (hs : ∀ t k, 0 ≤ t → t ≤ 5 → rd 32 t h = 0 → 0 ≤ k → k < 32 → rd 63 (32 * t + k) h' = 1 → rd 63 (32 * t + k) h = 1) : MP h' := by
  simp only [List.all_cons, List.all_nil, Bool.and_eq_true, Bool.and_true] at hc
  obtain ⟨⟨c1, c3, c4, c5, c6, c7, c8⟩, c9⟩ := hc
  have e1 : ∀ i, rd 32 i h' = rd 32 i h := fun i => x.k 32 i (by simpa using c1)
  have e3 : ∀ i, rd 65 i h' = rd 65 i h := fun i => x.k 65 i (by simpa using c3)
  have e4 : ∀ i, rd 66 i h' = rd 66 i h := fun i => x.k 66 i (by simpa using c4)
  have e5 : ∀ i, rd 67 i h' = rd 67 i h := fun i => x.k 67 i (by simpa using c5)
  have e6 : ∀ i, rd 74 i h' = rd 74 i h := fun i => x.k 74 i (by simpa using c6)
  have e7 : ∀ i, rd 75 i h' = rd 75 i h := fun i => x.k 75 i (by simpa using c7)
  have e8 : ∀ i, rd 76 i h' = rd 76 i h := fun i => x.k 76 i (by simpa using c8)
  have e9 : rd 31 42 h' = rd 31 42 h := x.f 42 (by simpa using c9)
  refine ⟨fun s q1 q2 => ?_, fun t k q1 q2 q3 q4 q5 q6 q7 => ?_, fun t k k' q1 q2 q3 q4 q5 q6 q7 q8 q9 q10 q11 q12 => ?_⟩
  · rw [e6, e7, e8]; exact M.1 s q1 q2
  · rw [e1] at q3
    have := M.2.1 t k q1 q2 q3 q4 q5 q6 (hs t k q1 q2 q3 q4 q5 q7)
    unfold cardOK at this ⊢
    simp only [e3, e4, e5, e6, e7, e9]
    exact this
  · rw [e1] at q3
    rw [e5, e5]
    exact M.2.2 t k k' q1 q2 q3 q4 q5 q6 q7 q8 q9 q10 (hs t k q1 q2 q3 q4 q5 q11) (hs t k' q1 q2 q3 q6 q7 q12)
theorem Up.same {K : Nat} {j : Int} {h h' : Hp} (s : Sm K h h') : Up K j (rd K j h) h h' := fun i hi => by
  rw [s i hi]
  split
  · rename_i e; rw [e]
  · rfl
def manyV (h : Hp) (c x : Int) : Int :=
  if (rd 32 (rd 36 x h) h = 1 ∧ rd 37 x h = 0) ∨ (rd 32 (rd 36 x h) h = 2 ∧ rd 57 c h = 0 ∧ rd 37 x h < 2) then rd 69 (rd 36 x h) h + 1
  else if (rd 32 (rd 36 x h) h = 1 ∧ rd 37 x h ≠ 0 ∧ rd 55 c h ≠ 0) ∨ (rd 32 (rd 36 x h) h = 2 ∧ rd 57 c h = 0 ∧ (rd 37 x h = 2 ∨ rd 37 x h = 3)) then (if 0 < rd 69 (rd 36 x h) h then rd 69 (rd 36 x h) h - 1 else rd 69 (rd 36 x h) h)
  else rd 69 (rd 36 x h) h
def closV (h : Hp) (c x : Int) : Int := if rd 32 (rd 36 x h) h = 2 ∧ rd 57 c h = 0 ∧ rd 37 x h = 4 then 1 else rd 70 (rd 36 x h) h
def WpP (h : Hp) (c x : Int) (h1 : Hp) : Prop :=
  Fq [56, 63, 64, 65, 66, 67, 68, 69, 70, 71, 72, 75, 76, 77] [42] h h1 ∧ MP h1 ∧ rd 31 42 h ≤ rd 31 42 h1 ∧ rd 31 42 h1 ≤ rd 31 42 h + 1 ∧ Up 69 (rd 36 x h) (manyV h c x) h h1 ∧ Up 70 (rd 36 x h) (closV h c x) h h1 ∧
  (rd 32 (rd 36 x h) h = 5 → Up 72 (32 * rd 36 x h + rd 38 x h) 0 h h1 ∧ Up 63 (32 * rd 36 x h + rd 38 x h) (if rd 58 c h = 0 then 1 else rd 63 (32 * rd 36 x h + rd 38 x h) h) h h1) ∧
  (rd 32 (rd 36 x h) h ≠ 5 → Sm 72 h h1 ∧ ∀ i, 0 ≤ i → i < 32 * rd 36 x h ∨ 32 * rd 36 x h + 32 ≤ i → rd 63 i h1 = rd 63 i h)
theorem c_write_c {c x t op a : Int} (b_c : 0 ≤ c ∧ c ≤ 4) (b_x : 0 ≤ x ∧ x ≤ 39) (b_t : 0 ≤ t ∧ t ≤ 5) (b_op : 0 ≤ op ∧ op ≤ 4) (b_a : -2147483648 ≤ a ∧ a ≤ 2147483647) : ∀ (n : Nat) (k : Int) (ls : List (Option Value)) (h : Hp), TInv h → 32 - k < n → (0 ≤ k ∧ k ≤ 32) → LVs [some (rv 31), some (iv c), some (iv x), some (iv t), some (iv op), some (iv a), some (iv k)] ls →
    ∃ h' ls', LVs [some (rv 31), some (iv c), some (iv x), some (iv t), some (iv op), some (iv a), none] ls' ∧ (∀ d r, 3 ≤ d → Ev d 169 (452, ls', [], h', fl_tot) r → Ev d 169 (319, ls, [], h, fl_tot) r) ∧ Nx h h' ∧ Fq [63, 64] [] h h' ∧ ∀ i, 0 ≤ i → i < 32 * t ∨ 32 * t + 32 ≤ i → rd 63 i h' = rd 63 i h := by
  intro n
  induction n with
  | zero => intro k ls h hT h1 h2; omega
  | succ n ih =>
    intro k ls h hT h1 b_k hl
    have go : ∀ {v w : Int} {lv : List (Option Value)}, (0 ≤ v ∧ v ≤ 1) → k < 32 → Nx h (wr 64 (32 * t + k) w (wr 63 (32 * t + k) v h)) → LVs [some (rv 31), some (iv c), some (iv x), some (iv t), some (iv op), some (iv a), some (iv (k + 1))] lv → (∀ d r, 3 ≤ d → Ev d 169 (319, lv, [], wr 64 (32 * t + k) w (wr 63 (32 * t + k) v h), fl_tot) r → Ev d 169 (319, ls, [], h, fl_tot) r) →
        ∃ h' ls', LVs [some (rv 31), some (iv c), some (iv x), some (iv t), some (iv op), some (iv a), none] ls' ∧ (∀ d r, 3 ≤ d → Ev d 169 (452, ls', [], h', fl_tot) r → Ev d 169 (319, ls, [], h, fl_tot) r) ∧ Nx h h' ∧ Fq [63, 64] [] h h' ∧ ∀ i, 0 ≤ i → i < 32 * t ∨ 32 * t + 32 ≤ i → rd 63 i h' = rd 63 i h := by
      intro v w lv hv hk T Hl K
      obtain ⟨h', ls', u1, u2, u3, u4, u5⟩ := ih (k + 1) lv _ T.1 (by omega) (by omega) Hl
      refine ⟨h', ls', u1, fun d r hd e => K d r hd (u2 d r hd e), T.trans u3, (((Fq.refl h).put 63 (32 * t + k) v rfl).put 64 (32 * t + k) w rfl).trans u4, fun i hi hx => ?_⟩
      rw [u5 i hi hx]
      simp (disch := omega) only [rdk, rd_wr]
      rw [if_neg (by omega)]
    rcases s169c hT b_c b_x b_t b_op b_a b_k hl with ⟨f0, f1, T, lv, Hl, K⟩ | ⟨n9, n10, n12, n13, copyHas14, n16, n17, n19, n20, copyValue21, g1, g2, rfl, rfl, f0, f1, f2, f3, f4, f5, f6, f7, f8, f9, f10, f11, rfl, rfl, f14, rfl, rfl, rfl, rfl, rfl, f20, rfl, rfl, rfl, T, lv, Hl, K⟩ | ⟨n9, n10, n12, n13, copyHas14, n16, n17, bOf19, g1, g2, rfl, rfl, f0, f1, f2, f3, f4, f5, f6, f7, f8, f9, f10, rfl, rfl, f13, rfl, rfl, rfl, rfl, rfl, f19, rfl, T, lv, Hl, K⟩ | ⟨n9, n10, n12, n13, n15, n16, copyValue17, g1, g2, rfl, rfl, f0, f1, f2, f3, f4, f5, f6, f7, f8, f9, f10, rfl, rfl, f13, f14, rfl, rfl, f17, rfl, rfl, rfl, T, lv, Hl, K⟩ | ⟨n9, n10, n12, n13, bOf15, g1, g2, rfl, rfl, f0, f1, f2, f3, f4, f5, f6, f7, f8, rfl, rfl, f11, f12, rfl, rfl, f15, rfl, T, lv, Hl, K⟩ | ⟨n9, n10, n12, n13, n15, n16, copyValue17, g1, g2, rfl, rfl, f0, f1, f2, f3, f4, f5, f6, f7, f8, f9, f10, rfl, rfl, f13, f14, rfl, rfl, f17, rfl, rfl, rfl, T, lv, Hl, K⟩ | ⟨n9, n10, n12, n13, bOf15, g1, g2, rfl, rfl, f0, f1, f2, f3, f4, f5, f6, f7, f8, rfl, rfl, f11, f12, rfl, rfl, f15, rfl, T, lv, Hl, K⟩
    · exact ⟨h, lv, Hl.fg 6 rfl, K, T, Fq.refl h, fun i _ _ => rfl⟩
    · exact go (by assumption) (by omega) T Hl K
    · exact go (by assumption) (by omega) T Hl K
    · exact go (by omega) (by omega) T Hl K
    · exact go (by omega) (by omega) T Hl K
    · exact go (by omega) (by omega) T Hl K
    · exact go (by omega) (by omega) T Hl K
theorem c_write_w {c x t op a : Int} (b_c : 0 ≤ c ∧ c ≤ 4) (b_x : 0 ≤ x ∧ x ≤ 39) (b_t : 0 ≤ t ∧ t ≤ 5) (b_op : 0 ≤ op ∧ op ≤ 4) (b_a : -2147483648 ≤ a ∧ a ≤ 2147483647) : ∀ (n : Nat) (o : Int) (ls : List (Option Value)) (h : Hp), TInv h → 5 - o < n → (0 ≤ o ∧ o ≤ 5) → (∀ i, 0 ≤ i → i < rd 31 4 h → rd 53 i h = 1 → rd 51 i h ≤ 7) → LVs [some (rv 31), some (iv c), some (iv x), some (iv t), some (iv op), some (iv a), some (iv o)] ls →
    ∃ h', (∀ d, 3 ≤ d → Ev d 169 (455, ls, [], h, fl_tot) (none, h', fl_tot)) ∧ Nx h h' ∧ Fq [53] [] h h' ∧ ∀ i, 0 ≤ i → rd 53 i h' = if o ≤ i ∧ i < rd 31 4 h ∧ rd 53 i h = 1 ∧ rd 36 (8 * i + rd 51 i h) h = t then 0 else rd 53 i h := by
  intro n
  induction n with
  | zero => intro o ls h hT h1 h2; omega
  | succ n ih =>
    intro o ls h hT h1 b_o hw hl
    have b4 : 0 ≤ rd 31 4 h ∧ rd 31 4 h ≤ 5 := rdt_ok hT 31 4
    rcases s169w hT b_c b_x b_t b_op b_a b_o hl with ⟨clerks8, f0, rfl, f2, T, K⟩ | ⟨clerks8, isWaiting10, f0, f1, f2, rfl, f4, rfl, f6, T, lv, Hl, K⟩ | ⟨clerks8, isWaiting10, n12, now14, n15, f0, f1, f2, f3, f4, f5, rfl, f7, rfl, f9, rfl, rfl, rfl, f13⟩ | ⟨clerks8, isWaiting10, n12, now14, n15, trayOf16, f0, f1, f2, f3, f4, f5, f6, rfl, f8, rfl, f10, rfl, rfl, rfl, rfl, f15, T, lv, Hl, K⟩ | ⟨clerks8, isWaiting10, n12, now14, n15, trayOf16, g1, rfl, f0, f1, f2, f3, f4, f5, f6, rfl, f8, rfl, f10, rfl, rfl, rfl, rfl, f15, T, lv, Hl, K⟩
    · exact ⟨h, K, T, Fq.refl h, fun i hi => by rw [if_neg (by omega)]⟩
    · obtain ⟨h', u1, u2, u3, u4⟩ := ih (o + 1) lv h hT (by omega) (by omega) hw Hl
      refine ⟨h', fun d hd => K d _ hd (u1 d hd), u2, u3, fun i hi => ?_⟩
      rw [u4 i hi]
      by_cases e : i = o
      · subst e; rw [if_neg (by omega), if_neg (by omega)]
      · by_cases e2 : o + 1 ≤ i ∧ i < rd 31 4 h ∧ rd 53 i h = 1 ∧ rd 36 (8 * i + rd 51 i h) h = t
        · rw [if_pos e2, if_pos (by omega)]
        · rw [if_neg e2, if_neg (by omega)]
    · have := hw o (by omega) (by omega) (by omega)
      omega
    · obtain ⟨h', u1, u2, u3, u4⟩ := ih (o + 1) lv h hT (by omega) (by omega) hw Hl
      refine ⟨h', fun d hd => K d _ hd (u1 d hd), u2, u3, fun i hi => ?_⟩
      rw [u4 i hi]
      by_cases e : i = o
      · subst e; rw [if_neg (by omega), if_neg (by omega)]
      · by_cases e2 : o + 1 ≤ i ∧ i < rd 31 4 h ∧ rd 53 i h = 1 ∧ rd 36 (8 * i + rd 51 i h) h = t
        · rw [if_pos e2, if_pos (by omega)]
        · rw [if_neg e2, if_neg (by omega)]
    · have F := (Fq.refl (Ks := [53]) (fs := []) h).put 53 o 0 rfl
      have e53 : ∀ i, 0 ≤ i → rd 53 i (wr 53 o 0 h) = if i = o then 0 else rd 53 i h := fun i hi => rd_wr hi (by omega) (by omega) (by omega)
      have e51 : ∀ i, rd 51 i (wr 53 o 0 h) = rd 51 i h := fun i => F.k 51 i rfl
      have e36 : ∀ i, rd 36 i (wr 53 o 0 h) = rd 36 i h := fun i => F.k 36 i rfl
      have e4 : rd 31 4 (wr 53 o 0 h) = rd 31 4 h := F.f 4 rfl
      obtain ⟨h', u1, u2, u3, u4⟩ := ih (o + 1) lv _ T.1 (by omega) (by omega) (fun i q1 q2 q3 => by
        rw [e51]
        rw [e4] at q2
        rw [e53 i q1] at q3
        split at q3
        · omega
        · exact hw i q1 q2 q3) Hl
      refine ⟨h', fun d hd => K d _ hd (u1 d hd), T.trans u2, F.trans u3, fun i hi => ?_⟩
      rw [u4 i hi, e53 i hi, e51, e36, e4]
      by_cases e : i = o
      · subst e
        rw [if_neg (by omega), if_pos rfl, if_pos (by omega)]
      · rw [if_neg e]
        by_cases e2 : o + 1 ≤ i ∧ i < rd 31 4 h ∧ rd 53 i h = 1 ∧ rd 36 (8 * i + rd 51 i h) h = t
        · rw [if_pos e2, if_pos (by omega)]
        · rw [if_neg e2, if_neg (by omega)]
