
set_option maxRecDepth 20000
/-! THE SEARCH -/
abbrev seKs : List Nat := [83, 84, 85, 86, 87, 88, 89]
theorem TkA.fr {Ks : List Nat} {fs : List Int} {h h' : Hp} {t : Int} (x : Fq Ks fs h h') (hc : ([32, 37, 38, 82].all (fun K => !Ks.contains K) && !fs.contains 60) = true) (A : TkA h t) : TkA h' t := by
  simp only [List.all_cons, List.all_nil, Bool.and_eq_true, Bool.and_true] at hc
  obtain ⟨⟨c1, c2, c3, c4⟩, c5⟩ := hc
  intro i q1 q2
  rw [x.f 60 (by simpa using c5)] at q2
  have := A i q1 q2
  rw [x.k 82 i (by simpa using c4), x.k 32 t (by simpa using c1), x.k 37 _ (by simpa using c2), x.k 38 _ (by simpa using c3)]
  exact this
def SeOut (h0 : Hp) (most : Int) (h : Hp) (pc : Nat) (ls : List (Option Value)) (st : List Value) (D : Nat) : Prop :=
    ∃ v h', (∀ d, D ≤ d → Ev d 194 (pc, ls, st, h, fl_tot) (some (iv v), h', fl_tot)) ∧ Nx h h' ∧ Fq seKs [64, 68, 69] h0 h' ∧ (0 ≤ rd 31 64 h' ∧ rd 31 64 h' ≤ most) ∧ (v = 1 → ∀ d, 0 ≤ d → d < rd 31 60 h0 → rd 83 d h' < rd 31 60 h0) ∧ (v = -5 ∨ v = 0 ∨ v = 1)
theorem c_search_l {h0 : Hp} {t most : Int} (b_t : 0 ≤ t ∧ t ≤ 5) (b_most : 0 ≤ most ∧ most ≤ 3000) (A : TkA h0 t) (tm : 1 ≤ rd 31 60 h0 ∧ rd 31 60 h0 ≤ 12) : ∀ (n : Nat) (dp : Int) (ls : List (Option Value)) (h : Hp), TInv h → mu (fun d => rd 85 d h) dp < n → (-1 ≤ dp ∧ dp ≤ 11) → dp + 1 ≤ rd 31 60 h0 → Fq seKs [64, 68, 69] h0 h → (0 ≤ rd 31 64 h ∧ rd 31 64 h ≤ most) → (∀ d, 0 ≤ d → d < dp → rd 83 d h < rd 31 60 h0) → (∀ d, 0 ≤ d → d ≤ dp → rd 85 d h ≤ rd 31 60 h0) → LVs [some (rv 31), some (iv t), some (iv most), some (iv dp), none] ls → SeOut h0 most h 86 ls [] 7 := by
  intro n
  induction n with
  | zero =>
    intro dp ls h hT h1 b_dp h3 F hk pl nt
    have := mu_nn (nt := fun d => rd 85 d h) (dp := dp) (fun d q1 q2 q3 => by have := nt d q1 q2; omega)
    omega
  | succ n ih =>
    intro dp ls h hT h1 b_dp h3 F hk pl nt hl
    have e60 : rd 31 60 h = rd 31 60 h0 := F.f 60 rfl
    have b85 : ∀ d, 0 ≤ d → d ≤ 11 → 0 ≤ rd 85 d h ∧ rd 85 d h ≤ 12 := fun d q1 q2 => rda_ok hT 85 13 0 12 rfl q1 (by omega)
    have ntd : 0 ≤ dp → rd 85 dp h ≤ rd 31 60 h0 := fun z => nt dp z (by omega)
    -- the same level again
    have same : ∀ {h2 : Hp} {lv : List (Option Value)} {i : Int}, 0 ≤ dp → rd 85 dp h < rd 31 60 h0 → TInv h2 → Fq seKs [64, 68, 69] h0 h2 → (0 ≤ rd 31 64 h2 ∧ rd 31 64 h2 ≤ most) → (∀ d, 0 ≤ d → rd 85 d h2 = if d = dp then rd 85 dp h + 1 else rd 85 d h) → (∀ d, 0 ≤ d → rd 83 d h2 = rd 83 d h) → LVs [some (rv 31), some (iv t), some (iv most), some (iv dp), some (iv i)] lv → SeOut h0 most h2 86 lv [] 7 := by
      intro h2 lv i q0 q1 q2 q3 q4 q5 q6 q7
      refine ih dp lv h2 q2 ?_ b_dp h3 q3 q4 (fun d z1 z2 => by rw [q6 d z1]; exact pl d z1 z2) (fun d z1 z2 => ?_) (q7.fg 4 rfl)
      · have := mu_inc (nt := fun d => rd 85 d h) (nt' := fun d => rd 85 d h2) (dp := dp) ⟨q0, b_dp.2⟩ (fun d z1 z2 => by
          show rd 85 d h2 = if d = dp then rd 85 d h + 1 else rd 85 d h
          rw [q5 d z1]
          split
          · rename_i e; rw [e]
          · rfl)
        omega
      · rw [q5 d z1]
        split
        · omega
        · exact nt d z1 z2
    rcases s194e hT b_t b_most b_dp hl with ⟨f0, f1, T, K⟩ | ⟨nextTry6, takenMany7, nextTry8, f0, f1, f2, f3, f4, rfl, rfl, f7, rfl, f9⟩ | ⟨nextTry6, takenMany7, nextTry8, g1, rfl, f0, f1, f2, f3, f4, rfl, rfl, f7, rfl, f9⟩ | ⟨nextTry6, takenMany7, nextTry8, isPlaced10, g1, rfl, f0, f1, f2, f3, f4, f5, rfl, rfl, f8, rfl, rfl, f11, T, lv, Hl, K⟩ | ⟨nextTry6, takenMany7, nextTry8, isPlaced10, triesNow11, g1, rfl, f0, f1, f2, f3, f4, f5, f6, rfl, rfl, f9, rfl, rfl, f12, rfl, f14⟩ | ⟨nextTry6, takenMany7, nextTry8, isPlaced10, triesNow11, g1, rfl, f0, f1, f2, f3, f4, f5, f6, rfl, rfl, f9, rfl, rfl, f12, rfl, f14⟩ | ⟨nextTry6, takenMany7, nextTry8, isPlaced10, triesNow11, g1, g2, rfl, rfl, f0, f1, f2, f3, f4, f5, f6, rfl, rfl, f9, rfl, rfl, f12, rfl, f14, f15, T, lv, Hl, K⟩ | ⟨nextTry6, takenMany7, nextTry8, isPlaced10, triesNow11, g1, rfl, f0, f1, f2, f3, f4, f5, f6, rfl, rfl, f9, rfl, rfl, f12, rfl, f14, T, K⟩ | ⟨nextTry6, takenMany7, f0, f1, f2, f3, rfl, rfl, f6, f7, T, lv, Hl, K⟩ | ⟨nextTry6, takenMany7, placed10, g1, rfl, f0, f1, f2, f3, f4, rfl, rfl, f7, f8, rfl, T, lv, Hl, K⟩
    all_goals first | (exfalso; have := ntd (by omega); omega) | skip
    · exact ⟨0, h, fun d hd => K d (by omega), T, F, hk, fun z => by omega, by omega⟩
    · have F1 := F.put 85 dp (rd 85 dp h + 1) rfl
      have b := b85 dp (by omega) (by omega)
      have := ntd (by omega)
      obtain ⟨v, h', u1, u2, u3⟩ := same (h2 := wr 85 dp (rd 85 dp h + 1) h) (i := rd 85 dp h) (by omega) (by omega) T.1 F1 (by rw [rd_k rfl]; exact hk) (fun d z1 => rd_wr z1 (by omega) (by omega) (by omega)) (fun d z1 => rd_k rfl _ _ _ _) Hl
      exact ⟨v, h', fun d hd => K d _ (by omega) (u1 d hd), T.trans u2, u3⟩
    · have b := b85 dp (by omega) (by omega)
      have hlt := ntd (by omega)
      have F1 := (F.put 85 dp (rd 85 dp h + 1) rfl).putf 64 (rd 31 64 h + 1) rfl
      have e64 : rd 31 64 (wr 31 64 (rd 31 64 h + 1) (wr 85 dp (rd 85 dp h + 1) h)) = rd 31 64 h + 1 := rd_eq (by omega) (by omega)
      have e85 : ∀ d, 0 ≤ d → rd 85 d (wr 31 64 (rd 31 64 h + 1) (wr 85 dp (rd 85 dp h + 1) h)) = if d = dp then rd 85 dp h + 1 else rd 85 d h := fun d z1 => by
        rw [rd_k rfl]
        exact rd_wr z1 (by omega) (by omega) (by omega)
      have e83 : ∀ d, 0 ≤ d → rd 83 d (wr 31 64 (rd 31 64 h + 1) (wr 85 dp (rd 85 dp h + 1) h)) = rd 83 d h := fun d z1 => by
        rw [rd_k rfl, rd_k rfl]
      have e60' : rd 31 60 (wr 31 64 (rd 31 64 h + 1) (wr 85 dp (rd 85 dp h + 1) h)) = rd 31 60 h0 := F1.f 60 rfl
      generalize hg : wr 31 64 (rd 31 64 h + 1) (wr 85 dp (rd 85 dp h + 1) h) = g at *
      have K0 := K
      have T0 := T
      obtain ⟨v, h2, v0, v1, v2, v3⟩ := c_mayCome T.1 (i := rd 85 dp h) (dp := dp) (t := t) (by omega) (by omega) b_t (A.fr F1 rfl) (by omega) (by omega) (fun d z1 z2 => by rw [e83 d z1, e60']; exact pl d z1 z2)
      have F2 : Fq seKs [64, 68, 69] h0 h2 := F1.trans (v3.wide rfl rfl)
      have k64 : rd 31 64 h2 = rd 31 64 h + 1 := by rw [v3.f 64 rfl, e64]
      have k85 : ∀ d, 0 ≤ d → rd 85 d h2 = if d = dp then rd 85 dp h + 1 else rd 85 d h := fun d z1 => by rw [v3.k 85 d rfl, e85 d z1]
      have k83 : ∀ d, 0 ≤ d → rd 83 d h2 = rd 83 d h := fun d z1 => by rw [v3.k 83 d rfl, e83 d z1]
      have k60 : rd 31 60 h2 = rd 31 60 h0 := F2.f 60 rfl
      have fin : ∀ {h3 : Hp}, Nx h2 h3 → SeOut h0 most h3 86 lv [] 7 → True := fun _ _ => trivial
      have out : SeOut h0 most h2 178 lv [iv v] 7 → SeOut h0 most h 86 ls [] 7 := fun z => by
        obtain ⟨w, h', u1, u2, u3⟩ := z
        refine ⟨w, h', fun d hd => ?_, T0.trans (v2.trans u2), u3⟩
        obtain ⟨d, rfl⟩ : ∃ d', d = d' + 1 := ⟨d - 1, by omega⟩
        exact K0 d _ _ _ (by omega) (v1 d (by omega)) (u1 (d + 1) (by omega))
      apply out
      rcases s194f v2.1 b_t b_most (dp := dp) (by omega) (i := rd 85 dp h) (by omega) (v := v) v0 Hl with ⟨f0, f1, T, lv, Hl, K⟩ | ⟨takenMany7, g1, g2, g3, rfl, rfl, rfl, f0, f1, f2, rfl, f4, T, lv, Hl, K⟩ | ⟨takenMany7, f0, f1, f2, rfl, f4, T, lv, Hl, K⟩
      all_goals first | (exfalso; omega) | skip
      · obtain ⟨w, h', u1, u2, u3⟩ := same (h2 := h2) (i := rd 85 dp h) (by omega) (by omega) v2.1 F2 (by omega) k85 k83 Hl
        exact ⟨w, h', fun d hd => K d _ (by omega) (u1 d hd), T.trans u2, u3⟩
      · have F3 := ((F2.put 83 dp (rd 85 dp h) rfl).put 84 (rd 85 dp h) 1 rfl).put 85 (dp + 1) 0 rfl
        have m85 : ∀ d, 0 ≤ d → rd 85 d (wr 85 (dp + 1) 0 (wr 84 (rd 85 dp h) 1 (wr 83 dp (rd 85 dp h) h2))) = if d = dp + 1 then 0 else if d = dp then rd 85 dp h + 1 else rd 85 d h := fun d z1 => by
          rw [rd_wr z1 (by omega) (by omega) (by omega)]
          split
          · rfl
          · rw [rd_k rfl, rd_k rfl, k85 d z1]
        have m83 : ∀ d, 0 ≤ d → rd 83 d (wr 85 (dp + 1) 0 (wr 84 (rd 85 dp h) 1 (wr 83 dp (rd 85 dp h) h2))) = if d = dp then rd 85 dp h else rd 83 d h := fun d z1 => by
          rw [rd_k rfl, rd_k rfl, rd_wr z1 (by omega) (by omega) (by omega)]
          split
          · rfl
          · exact k83 d z1
        have m64 : rd 31 64 (wr 85 (dp + 1) 0 (wr 84 (rd 85 dp h) 1 (wr 83 dp (rd 85 dp h) h2))) = rd 31 64 h2 := by
          rw [rd_k rfl, rd_k rfl, rd_k rfl]
        have hmu := mu_push (nt := fun d => rd 85 d h) (nt' := fun d => rd 85 d (wr 85 (dp + 1) 0 (wr 84 (rd 85 dp h) 1 (wr 83 dp (rd 85 dp h) h2)))) (dp := dp) (by omega) (fun d z1 z2 => by
          show rd 85 d _ = if d = dp + 1 then 0 else if d = dp then rd 85 d h + 1 else rd 85 d h
          rw [m85 d z1]
          split
          · rfl
          · split
            · rename_i e; rw [e]
            · rfl)
        generalize wr 85 (dp + 1) 0 (wr 84 (rd 85 dp h) 1 (wr 83 dp (rd 85 dp h) h2)) = h3 at *
        obtain ⟨w, h', u1, u2, u3⟩ := ih (dp + 1) lv h3 T.1 (by omega) (by omega) (by omega) F3 (by omega) (fun d z1 z2 => by
          rw [m83 d z1]
          split
          · omega
          · exact pl d z1 (by omega)) (fun d z1 z2 => by
          rw [m85 d z1]
          split
          · omega
          · split
            · omega
            · exact nt d z1 (by omega)) (Hl.fg 4 rfl)
        exact ⟨w, h', fun d hd => K d _ (by omega) (u1 d hd), T.trans u2, u3⟩
      · obtain ⟨w, w0, w1⟩ := c_areAlike v2.1 b_t
        have K1 := K
        have T1 := T
        rcases s194g v2.1 b_t b_most (dp := dp) (by omega) (i := rd 85 dp h) (by omega) (v := w) w0 Hl with ⟨f0, f1, T, lv, Hl, K⟩ | ⟨g1, rfl, f0, f1, T, K⟩
        all_goals first | (exfalso; omega) | skip
        · obtain ⟨w, h', u1, u2, u3⟩ := same (h2 := h2) (i := rd 85 dp h) (by omega) (by omega) v2.1 F2 (by omega) k85 k83 Hl
          refine ⟨w, h', fun d hd => ?_, T.trans u2, u3⟩
          obtain ⟨d, rfl⟩ : ∃ d', d = d' + 1 := ⟨d - 1, by omega⟩
          exact K1 d _ _ _ (by omega) (w1 d (by omega)) (K (d + 1) _ (by omega) (u1 (d + 1) (by omega)))
        · have F3 := F2.put 83 dp (rd 85 dp h) rfl
          refine ⟨1, _, fun d hd => ?_, T, F3, ?_, fun _ d z1 z2 => ?_, by omega⟩
          · obtain ⟨d, rfl⟩ : ∃ d', d = d' + 1 := ⟨d - 1, by omega⟩
            exact K1 d _ _ _ (by omega) (w1 d (by omega)) (K (d + 1) (by omega))
          · rw [rd_k rfl]
            omega
          · rw [rd_wr z1 (by omega) (by omega) (by omega)]
            split
            · omega
            · rw [k83 d z1]
              exact pl d z1 (by omega)
    · have b := b85 dp (by omega) (by omega)
      have hlt := ntd (by omega)
      have F1 := F.put 85 dp (rd 85 dp h + 1) rfl
      exact ⟨-5, _, fun d hd => K d (by omega), T, F1, by rw [rd_k rfl]; exact hk, fun z => by omega, by omega⟩
    · have hmu := mu_pop (nt := fun d => rd 85 d h) (dp := dp) (by omega) (b85 dp (by omega) (by omega)).2
      obtain ⟨w, h', u1, u2, u3⟩ := ih (dp + -1) lv h hT (by omega) (by omega) (by omega) F hk (fun d z1 z2 => pl d z1 (by omega)) (fun d z1 z2 => nt d z1 (by omega)) (Hl.fg 4 rfl)
      exact ⟨w, h', fun d hd => K d _ (by omega) (u1 d hd), T.trans u2, u3⟩
    · have hmu := mu_pop (nt := fun d => rd 85 d h) (dp := dp) (by omega) (b85 dp (by omega) (by omega)).2
      have F1 := F.put 84 (rd 83 (dp + -1) h) 0 rfl
      have k85 : ∀ d, rd 85 d (wr 84 (rd 83 (dp + -1) h) 0 h) = rd 85 d h := fun d => rd_k rfl _ _ _ _
      have hmu2 : mu (fun d => rd 85 d (wr 84 (rd 83 (dp + -1) h) 0 h)) (dp + -1) = mu (fun d => rd 85 d h) (dp + -1) := by simp only [k85]
      obtain ⟨w, h', u1, u2, u3⟩ := ih (dp + -1) lv _ T.1 (by omega) (by omega) (by omega) F1 (by rw [rd_k rfl]; exact hk) (fun d z1 z2 => by rw [rd_k rfl]; exact pl d z1 (by omega)) (fun d z1 z2 => by rw [k85]; exact nt d z1 (by omega)) (Hl.fg 4 rfl)
      exact ⟨w, h', fun d hd => K d _ (by omega) (u1 d hd), T.trans u2, u3⟩
theorem c_search_k {h0 : Hp} {t most : Int} (b_t : 0 ≤ t ∧ t ≤ 5) (b_most : 0 ≤ most ∧ most ≤ 3000) (A : TkA h0 t) (tm : 0 ≤ rd 31 60 h0 ∧ rd 31 60 h0 ≤ 12) : ∀ (n : Nat) (k : Int) (ls : List (Option Value)) (h : Hp), TInv h → 12 - k < n → (0 ≤ k ∧ k ≤ 12) → Fq seKs [64, 68, 69] h0 h → (rd 31 64 h = 0) → LVs [some (rv 31), some (iv t), some (iv most), some (iv k), none] ls → SeOut h0 most h 31 ls [] 7 := by
  intro n
  induction n with
  | zero => intro k ls h hT h1 h2; omega
  | succ n ih =>
    intro k ls h hT h1 b_k F hk hl
    have e60 : rd 31 60 h = rd 31 60 h0 := F.f 60 rfl
    rcases s194b hT b_t b_most b_k hl with ⟨takenMany5, f0, rfl, f2⟩ | ⟨takenMany5, g1, rfl, f0, rfl, f2, T, lv, Hl, K⟩ | ⟨takenMany5, g1, rfl, f0, f1, rfl, f3, T, lv, Hl, K⟩
    all_goals first | (exfalso; omega) | skip
    · have F1 := F.put 85 0 0 rfl
      have K0 := K
      have T0 := T
      obtain ⟨h2, u1, u2, u3, u4⟩ := c_plainEmpty T.1
      have F2 : Fq seKs [64, 68, 69] h0 h2 := F1.trans (u3.wide rfl rfl)
      have k64 : rd 31 64 h2 = 0 := by rw [u3.f 64 rfl, rd_k rfl]; exact hk
      have k85 : rd 85 0 h2 = 0 := by rw [u3.k 85 0 rfl]; exact rd_eq (by decide) (by decide)
      have k60 : rd 31 60 h2 = rd 31 60 h0 := F2.f 60 rfl
      have out : ∀ {w : Int} {h' : Hp}, (∀ d, 7 ≤ d → Ev d 194 (65, lv, [], h2, fl_tot) (some (iv w), h', fl_tot)) → ∀ d, 7 ≤ d → Ev d 194 (31, ls, [], h, fl_tot) (some (iv w), h', fl_tot) := fun z d hd => by
        obtain ⟨d, rfl⟩ : ∃ d', d = d' + 1 := ⟨d - 1, by omega⟩
        exact K0 d _ _ _ (by omega) (u1 d (by omega)) (z (d + 1) (by omega))
      rcases s194c u2.1 b_t b_most (dp := 0) (by omega) Hl with ⟨takenMany5, f0, rfl, f2, T, lv, Hl, K⟩ | ⟨takenMany5, f0, rfl, f2, T, lv, Hl, K⟩
      · obtain ⟨w, h', z1, z2, z3⟩ := c_search_l b_t b_most A (by omega) ((mu (fun d => rd 85 d h2) 0).toNat + 1) 0 lv h2 u2.1 (by omega) (by omega) (by omega) F2 (by omega) (fun d z1 z2 => by omega) (fun d z1 z2 => by
          obtain rfl : d = 0 := by omega
          omega) Hl
        exact ⟨w, h', out (fun d hd => K d _ (by omega) (z1 d hd)), T0.trans (u2.trans z2), z3⟩
      · obtain ⟨w, w0, w1⟩ := c_areAlike u2.1 b_t
        have K1 := K
        rcases s194d u2.1 b_t b_most (dp := 0) (by omega) (v := w) w0 Hl with ⟨f0, f1, T, K⟩ | ⟨f0, f1, T, K⟩
        · refine ⟨0, h2, out (fun d hd => ?_), T0.trans u2, F2, by omega, fun z => by omega, by omega⟩
          obtain ⟨d, rfl⟩ : ∃ d', d = d' + 1 := ⟨d - 1, by omega⟩
          exact K1 d _ _ _ (by omega) (w1 d (by omega)) (K (d + 1) (by omega))
        · refine ⟨1, h2, out (fun d hd => ?_), T0.trans u2, F2, by omega, fun z d z1 z2 => by omega, by omega⟩
          obtain ⟨d, rfl⟩ : ∃ d', d = d' + 1 := ⟨d - 1, by omega⟩
          exact K1 d _ _ _ (by omega) (w1 d (by omega)) (K (d + 1) (by omega))
    · obtain ⟨w, h', u1, u2, u3⟩ := ih (k + 1) lv _ T.1 (by omega) (by omega) (F.put 84 k 0 rfl) (by rw [rd_k rfl]; exact hk) Hl
      exact ⟨w, h', fun d hd => K d _ (by omega) (u1 d hd), T.trans u2, u3⟩
def SrchP (h : Hp) (t most : Int) (v : Int) (h' : Hp) : Prop := Fq [82, 83, 84, 85, 86, 87, 88, 89] [60, 64, 68, 69] h h' ∧ (v = -5 ∨ v = -1 ∨ v = 0 ∨ v = 1) ∧ (v = 1 → rd 31 60 h' ≤ 12 ∧ ∀ d, 0 ≤ d → d < rd 31 60 h' → rd 83 d h' < rd 31 60 h')
theorem c_search {h : Hp} (hT : TInv h) (I : RI h) {t most : Int} (b_t : 0 ≤ t ∧ t ≤ 5) (b_most : 0 ≤ most ∧ most ≤ 3000) :
    ∃ v h', (∀ d, 8 ≤ d → Ev d 194 (0, fl_enter 5 [rv 31, iv t, iv most], [], h, fl_tot) (some (iv v), h', fl_tot)) ∧ Nx h h' ∧ SrchP h t most v h' := by
  obtain ⟨T, lv, Hl, K⟩ := s194 hT b_t b_most (LVs.self (fl_enter 5 [rv 31, iv t, iv most]))
  obtain ⟨h1, u1, u2, u3, u4, u5⟩ := c_take hT I b_t
  have K0 := K
  have A : TkA h1 t := fun i q1 q2 => by
    obtain ⟨⟨c, j, a1, a2, a3, a4, a5⟩, e⟩ := u5 i q1 q2
    have V := (I.1 c j a1 a2 a3 a4).1
    rw [← a5] at V
    unfold actOK at V
    rw [e] at V
    rw [u3.k 32 t rfl, u3.k 37 _ rfl, u3.k 38 _ rfl]
    exact V.2
  have F1 : Fq [82, 83, 84, 85, 86, 87, 88, 89] [60, 64, 68, 69] h h1 := u3.wide rfl rfl
  rcases s194a u2.1 b_t b_most Hl with ⟨ended4, f0, rfl, f2, T, K⟩ | ⟨ended4, takenMany5, g1, rfl, f0, f1, rfl, f3, rfl, f5, T, lv, Hl, K⟩ | ⟨ended4, takenMany5, f0, f1, rfl, f3, rfl, f5, T, K⟩
  · refine ⟨-1, h1, fun d hd => ?_, u2, F1, by omega, fun z => by omega⟩
    obtain ⟨d, rfl⟩ : ∃ d', d = d' + 1 := ⟨d - 1, by omega⟩
    exact K0 d _ _ _ (by omega) (u1 d (by omega)) (K (d + 1) (by omega))
  · have F2 := (Fq.refl (Ks := seKs) (fs := [64, 68, 69]) h1).putf 64 0 rfl
    obtain ⟨w, h', z1, z2, z3, z4, z5, z6⟩ := c_search_k b_t b_most A (by omega) 13 0 lv _ T.1 (by omega) (by omega) F2 (rd_eq (by decide) (by decide)) Hl
    have e60 : rd 31 60 h' = rd 31 60 h1 := z3.f 60 rfl
    refine ⟨w, h', fun d hd => ?_, u2.trans (T.trans z2), F1.trans (z3.wide rfl rfl), by omega, fun z => ?_⟩
    · obtain ⟨d, rfl⟩ : ∃ d', d = d' + 1 := ⟨d - 1, by omega⟩
      exact K0 d _ _ _ (by omega) (u1 d (by omega)) (K (d + 1) _ (by omega) (z1 (d + 1) (by omega)))
    · rw [e60]
      exact ⟨by omega, z5 z⟩
  · refine ⟨-1, h1, fun d hd => ?_, u2, F1, by omega, fun z => by omega⟩
    obtain ⟨d, rfl⟩ : ∃ d', d = d' + 1 := ⟨d - 1, by omega⟩
    exact K0 d _ _ _ (by omega) (u1 d (by omega)) (K (d + 1) (by omega))
