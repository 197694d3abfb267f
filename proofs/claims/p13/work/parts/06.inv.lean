/-! what a step of the flat machine says, instruction by instruction -/
section INV
variable {a : List Int} {nx pc n : Nat} {ls : List (Option Value)} {st : List Value} {h : Hp} {r : Out}
theorem iv1 {v : Int} (q : fl_step (1, [v], nx) (pc, ls, st, h, n) = some r) : r = .inl (nx, ls, .int (Int32.ofInt v) :: st, h, n) := (Option.some.inj q).symm
theorem iv2 {i t : Int} (q : fl_step (2, [i, t], nx) (pc, ls, st, h, n) = some r) : ∃ v, ls[i.toNat]? = some (some v) ∧ fl_is t v = true ∧ r = .inl (nx, ls, v :: st, h, n) := by
  simp only [fl_step] at q
  split at q
  · rename_i v e
    split at q
    · rename_i e2
      exact ⟨v, e, e2, (Option.some.inj q).symm⟩
    · cases q
  · cases q
theorem iv3 {i t : Int} (q : fl_step (3, [i, t], nx) (pc, ls, st, h, n) = some r) : ∃ v st' ls', st = v :: st' ∧ fl_is t v = true ∧ fl_store ls i.toNat v = some ls' ∧ r = .inl (nx, ls', st', h, n) := by
  simp only [fl_step] at q
  split at q
  · rename_i i' t' v st' e1
    cases e1
    split at q
    · rename_i e2
      split at q
      · rename_i ls' e
        exact ⟨v, st', ls', rfl, e2, e, (Option.some.inj q).symm⟩
      · cases q
    · cases q
  · cases q
theorem is_int {v : Value} (h : fl_is 0 v = true) : ∃ x, v = .int x := by cases v <;> first | exact ⟨_, rfl⟩ | (exact absurd h (by decide)) | (exact absurd h (by simp [fl_is]))
theorem is_long {v : Value} (h : fl_is 1 v = true) : ∃ x, v = .long x := by cases v <;> first | exact ⟨_, rfl⟩ | (exact absurd h (by decide)) | (exact absurd h (by simp [fl_is]))
theorem is_ref {v : Value} (h : fl_is 2 v = true) : ∃ o, v = fl_rv o := by cases v <;> first | exact ⟨none, rfl⟩ | exact ⟨some _, rfl⟩ | (exact absurd h (by decide)) | (exact absurd h (by simp [fl_is]))
theorem iv4 {i d : Int} (q : fl_step (4, [i, d], nx) (pc, ls, st, h, n) = some r) : ∃ x ls', ls[i.toNat]? = some (some (.int x)) ∧ fl_store ls i.toNat (.int (x + Int32.ofInt d)) = some ls' ∧ r = .inl (nx, ls', st, h, n) := by
  simp only [fl_step] at q
  split at q
  · rename_i x e
    split at q
    · rename_i ls' e'
      exact ⟨x, ls', e, e', (Option.some.inj q).symm⟩
    · cases q
  · cases q
theorem iv5 {o : Int} (q : fl_step (5, [o], nx) (pc, ls, st, h, n) = some r) : ∃ x y z st', st = .int y :: .int x :: st' ∧ fl_bin o x y = some z ∧ r = .inl (nx, ls, .int z :: st', h, n) := by
  simp only [fl_step] at q
  split at q
  · rename_i o' y x st' e1
    cases e1
    split at q
    · rename_i z e
      exact ⟨x, y, z, st', rfl, e, (Option.some.inj q).symm⟩
    · cases q
  · cases q
theorem iv6 {o t : Int} (q : fl_step (6, [o, t], nx) (pc, ls, st, h, n) = some r) : ∃ x b st', st = .int x :: st' ∧ fl_cmp o x 0 = some b ∧ r = .inl (if b then t.toNat else nx, ls, st', h, n) := by
  simp only [fl_step] at q
  split at q
  · rename_i o' t' x st' e1
    cases e1
    split at q
    · rename_i b e
      exact ⟨x, b, st', rfl, e, (Option.some.inj q).symm⟩
    · cases q
  · cases q
theorem iv7 {o t : Int} (q : fl_step (7, [o, t], nx) (pc, ls, st, h, n) = some r) : ∃ x y b st', st = .int y :: .int x :: st' ∧ fl_cmp o x y = some b ∧ r = .inl (if b then t.toNat else nx, ls, st', h, n) := by
  simp only [fl_step] at q
  split at q
  · rename_i o' t' y x st' e1
    cases e1
    split at q
    · rename_i b e
      exact ⟨x, y, b, st', rfl, e, (Option.some.inj q).symm⟩
    · cases q
  · cases q
theorem iv8 {t : Int} (q : fl_step (8, [t], nx) (pc, ls, st, h, n) = some r) : r = .inl (t.toNat, ls, st, h, n) := (Option.some.inj q).symm
theorem iv9 {ci k : Int} (q : fl_step (9, [ci, k], nx) (pc, ls, st, h, n) = some r) : ∃ a st', st = .ref a :: st' ∧ a < n ∧ fl_lay a = (ci.toNat, (fl_N[ci.toNat]?).getD 0) ∧ ((fl_kind ci.toNat k.toNat < 2 ∧ r = .inl (nx, ls, .int (h.1 a k.toNat) :: st', h, n)) ∨ (fl_kind ci.toNat k.toNat = 2 ∧ r = .inl (nx, ls, fl_rv (h.2 a k.toNat) :: st', h, n))) := by
  simp only [fl_step] at q
  split at q
  · rename_i ci' k' a st' e1
    cases e1
    split at q
    · rename_i e
      refine ⟨a, st', rfl, e.1, e.2, ?_⟩
      split at q
      · rename_i e3
        exact Or.inl ⟨by rw [e3]; decide, (Option.some.inj q).symm⟩
      · rename_i e3
        exact Or.inl ⟨by rw [e3]; decide, (Option.some.inj q).symm⟩
      · rename_i e3
        exact Or.inr ⟨e3, (Option.some.inj q).symm⟩
      · cases q
    · cases q
  · cases q
theorem iv10 {ci k : Int} (q : fl_step (10, [ci, k], nx) (pc, ls, st, h, n) = some r) : ∃ v a st', st = v :: .ref a :: st' ∧ a < n ∧ fl_lay a = (ci.toNat, (fl_N[ci.toNat]?).getD 0) ∧ ((fl_kind ci.toNat k.toNat < 2 ∧ ∃ x, v = .int x ∧ (fl_kind ci.toNat k.toNat = 1 → fl_bit x = true) ∧ r = .inl (nx, ls, st', fl_setI h a k.toNat x, n)) ∨ (fl_kind ci.toNat k.toNat = 2 ∧ ∃ o, v = fl_rv o ∧ r = .inl (nx, ls, st', fl_setR h a k.toNat o, n))) := by
  simp only [fl_step] at q
  split at q
  · rename_i ci' k' v a st' e1
    cases e1
    split at q
    · rename_i e
      refine ⟨v, a, st', rfl, e.1, e.2, ?_⟩
      split at q
      · rename_i x e3
        exact Or.inl ⟨by rw [e3]; decide, x, rfl, fun z => absurd (e3.symm.trans z) (by decide), (Option.some.inj q).symm⟩
      · rename_i x e3
        split at q
        · rename_i e4
          exact Or.inl ⟨by rw [e3]; decide, x, rfl, fun _ => e4, (Option.some.inj q).symm⟩
        · cases q
      · rename_i b e3
        exact Or.inr ⟨e3, some b, rfl, (Option.some.inj q).symm⟩
      · rename_i e3
        exact Or.inr ⟨e3, none, rfl, (Option.some.inj q).symm⟩
      · cases q
    · cases q
  · cases q
theorem iv11 (q : fl_step (11, a, nx) (pc, ls, st, h, n) = some r) : ∃ i b st', st = .int i :: .ref b :: st' ∧ fl_isI n b = true ∧ fl_in i (fl_len h b) = true ∧ r = .inl (nx, ls, .int (h.1 b i.toNatClampNeg) :: st', h, n) := by
  simp only [fl_step] at q
  split at q
  · rename_i i b st'
    split at q
    · rename_i e
      rw [Bool.and_eq_true] at e
      exact ⟨i, b, st', rfl, e.1, e.2, (Option.some.inj q).symm⟩
    · cases q
  · cases q
theorem iv12 (q : fl_step (12, a, nx) (pc, ls, st, h, n) = some r) : ∃ x i b st', st = .int x :: .int i :: .ref b :: st' ∧ b < n ∧ (fl_lay b).1 = 20 ∧ fl_in i (fl_lay b).2 = true ∧ r = .inl (nx, ls, st', fl_setI h b i.toNatClampNeg x, n) := by
  simp only [fl_step] at q
  split at q
  · rename_i x i b st'
    split at q
    · rename_i e
      exact ⟨x, i, b, st', rfl, e.1, e.2.1, e.2.2, (Option.some.inj q).symm⟩
    · cases q
  · cases q
theorem iv13 (q : fl_step (13, a, nx) (pc, ls, st, h, n) = some r) : ∃ i b st', st = .int i :: .ref b :: st' ∧ b < n ∧ (fl_lay b).1 = 21 ∧ fl_in i (fl_lay b).2 = true ∧ r = .inl (nx, ls, .int (h.1 b i.toNatClampNeg) :: st', h, n) := by
  simp only [fl_step] at q
  split at q
  · rename_i i b st'
    split at q
    · rename_i e
      exact ⟨i, b, st', rfl, e.1, e.2.1, e.2.2, (Option.some.inj q).symm⟩
    · cases q
  · cases q
theorem iv14 (q : fl_step (14, a, nx) (pc, ls, st, h, n) = some r) : ∃ x i b st', st = .int x :: .int i :: .ref b :: st' ∧ b < n ∧ (fl_lay b).1 = 21 ∧ fl_in i (fl_lay b).2 = true ∧ fl_bit x = true ∧ n = fl_tot ∧ r = .inl (nx, ls, st', fl_setI h b i.toNatClampNeg x, n) := by
  simp only [fl_step] at q
  split at q
  · rename_i x i b st'
    split at q
    · rename_i e
      exact ⟨x, i, b, st', rfl, e.1, e.2.1, e.2.2.1, e.2.2.2.1, e.2.2.2.2, (Option.some.inj q).symm⟩
    · cases q
  · cases q
theorem iv15 (q : fl_step (15, a, nx) (pc, ls, st, h, n) = some r) : ∃ i b st', st = .int i :: .ref b :: st' ∧ b < n ∧ 30 ≤ (fl_lay b).1 ∧ (fl_lay b).1 < 41 ∧ fl_in i (fl_lay b).2 = true ∧ r = .inl (nx, ls, fl_rv (h.2 b i.toNatClampNeg) :: st', h, n) := by
  simp only [fl_step] at q
  split at q
  · rename_i i b st'
    split at q
    · rename_i e
      exact ⟨i, b, st', rfl, e.1, e.2.1, e.2.2.1, e.2.2.2, (Option.some.inj q).symm⟩
    · cases q
  · cases q
theorem iv16 (q : fl_step (16, a, nx) (pc, ls, st, h, n) = some r) : ∃ x i b st', st = .ref x :: .int i :: .ref b :: st' ∧ b < n ∧ 30 ≤ (fl_lay b).1 ∧ (fl_lay b).1 < 41 ∧ fl_in i (fl_lay b).2 = true ∧ x < n ∧ (fl_lay x).1 + 30 = (fl_lay b).1 ∧ r = .inl (nx, ls, st', fl_setR h b i.toNatClampNeg (some x), n) := by
  simp only [fl_step] at q
  split at q
  · rename_i x i b st'
    split at q
    · rename_i e
      exact ⟨x, i, b, st', rfl, e.1, e.2.1, e.2.2.1, e.2.2.2.1, e.2.2.2.2.1, e.2.2.2.2.2, (Option.some.inj q).symm⟩
    · cases q
  · cases q
theorem iv17 (q : fl_step (17, a, nx) (pc, ls, st, h, n) = some r) : ∃ b st', st = .ref b :: st' ∧ (b < n ∧ 20 ≤ (fl_lay b).1 ∧ (fl_lay b).1 < 41 ∨ 1000 ≤ b ∧ b ≤ 1010) ∧ r = .inl (nx, ls, .int (Int32.ofNat (fl_len h b)) :: st', h, n) := by
  simp only [fl_step] at q
  split at q
  · rename_i b st'
    split at q
    · rename_i e
      exact ⟨b, st', rfl, e, (Option.some.inj q).symm⟩
    · cases q
  · cases q
theorem ivcall {virt : Bool} {inst k m : Nat} (q : fl_call virt inst m k nx ls st h n = some r) : k + inst ≤ st.length ∧ fl_cat (st.drop (k + inst)) ≤ 8 ∧ r = .inr (.inl (m, (st.take (k + inst)).reverse, st.drop (k + inst), nx)) ∧ (virt = true → ∃ b as, (st.take (k + inst)).reverse = .ref b :: as ∧ b < n ∧ (fl_lay b).1 = ((sm_ms[m]?).map fun q => q.2.2.2.2).getD 98) ∧ (virt = false → inst = 1 → ∃ b as, (st.take (k + inst)).reverse = .ref b :: as) := by
  unfold fl_call at q
  split at q
  · cases q
  · rename_i e0
    simp only at q
    split at q
    · rename_i e1
      split at q
      · rename_i e2
        split at q
        · rename_i b as e3
          split at q
          · rename_i e4
            refine ⟨by omega, e1, ?_, fun _ => ⟨b, as, e3, e4⟩, fun z => ?_⟩
            · rw [e3]
              rw [← e3]
              exact (Option.some.inj q).symm
            · rw [e2] at z; cases z
          · cases q
        · cases q
      · rename_i e2
        split at q
        · rename_i e3
          split at q
          · rename_i b as e4
            refine ⟨by omega, e1, ?_, fun z => absurd z e2, fun _ _ => ⟨b, as, e4⟩⟩
            exact (Option.some.inj q).symm
          · cases q
        · rename_i e3
          exact ⟨by omega, e1, (Option.some.inj q).symm, fun z => absurd z e2, fun _ z => absurd z e3⟩
    · cases q
theorem iv18 {m k : Int} (q : fl_step (18, [m, k], nx) (pc, ls, st, h, n) = some r) : fl_call true 1 m.toNat k.toNat nx ls st h n = some r := q
theorem iv19 {m k : Int} (q : fl_step (19, [m, k], nx) (pc, ls, st, h, n) = some r) : fl_call false 0 m.toNat k.toNat nx ls st h n = some r := q
theorem iv20 {m k : Int} (q : fl_step (20, [m, k], nx) (pc, ls, st, h, n) = some r) : fl_call false 1 m.toNat k.toNat nx ls st h n = some r := q
theorem iv21 (q : fl_step (21, a, nx) (pc, ls, st, h, n) = some r) : st = [] ∧ r = .inr (.inr none) := by
  simp only [fl_step] at q
  split at q
  · exact ⟨rfl, (Option.some.inj q).symm⟩
  · cases q
theorem iv22 {o : Int} (q : fl_step (22, [o], nx) (pc, ls, st, h, n) = some r) : ∃ x, st = [.int x] ∧ (o = 0 ∨ fl_bit x = true) ∧ r = .inr (.inr (some (.int x))) := by
  simp only [fl_step] at q
  split at q
  · rename_i o' x e1
    cases e1
    split at q
    · rename_i e
      exact ⟨x, rfl, e, (Option.some.inj q).symm⟩
    · cases q
  · cases q
theorem iv23 (q : fl_step (23, a, nx) (pc, ls, st, h, n) = some r) : ∃ x, st = [.long x] ∧ r = .inr (.inr (some (.long x))) := by
  simp only [fl_step] at q
  split at q
  · rename_i x
    exact ⟨x, rfl, (Option.some.inj q).symm⟩
  · cases q
theorem iv24 (q : fl_step (24, a, nx) (pc, ls, st, h, n) = some r) : ∃ o, st = [fl_rv o] ∧ r = .inr (.inr (some (fl_rv o))) := by
  simp only [fl_step] at q
  split at q
  · rename_i b
    exact ⟨some b, rfl, (Option.some.inj q).symm⟩
  · exact ⟨none, rfl, (Option.some.inj q).symm⟩
  · cases q
theorem iv25 (q : fl_step (25, a, nx) (pc, ls, st, h, n) = some r) : ∃ v st', st = v :: st' ∧ v.category = 1 ∧ r = .inl (nx, ls, v :: v :: st', h, n) := by
  simp only [fl_step] at q
  split at q
  · rename_i v st'
    split at q
    · rename_i e
      exact ⟨v, st', rfl, e, (Option.some.inj q).symm⟩
    · cases q
  · cases q
theorem iv26 (q : fl_step (26, a, nx) (pc, ls, st, h, n) = some r) : (∃ x st', st = .long x :: st' ∧ r = .inl (nx, ls, .long x :: .long x :: st', h, n)) ∨ (∃ v w st', st = v :: w :: st' ∧ v.category = 1 ∧ w.category = 1 ∧ r = .inl (nx, ls, v :: w :: v :: w :: st', h, n)) := by
  simp only [fl_step] at q
  split at q
  · rename_i x st'
    exact Or.inl ⟨x, st', rfl, (Option.some.inj q).symm⟩
  · rename_i v w st' _
    split at q
    · rename_i e
      exact Or.inr ⟨v, w, st', rfl, e.1, e.2, (Option.some.inj q).symm⟩
    · cases q
  · cases q
theorem iv27 (q : fl_step (27, a, nx) (pc, ls, st, h, n) = some r) : ∃ v st', st = v :: st' ∧ v.category = 1 ∧ r = .inl (nx, ls, st', h, n) := by
  simp only [fl_step] at q
  split at q
  · rename_i v st'
    split at q
    · rename_i e
      exact ⟨v, st', rfl, e, (Option.some.inj q).symm⟩
    · cases q
  · cases q
theorem iv28 (q : fl_step (28, a, nx) (pc, ls, st, h, n) = some r) : (∃ x st', st = .long x :: st' ∧ r = .inl (nx, ls, st', h, n)) ∨ (∃ v w st', st = v :: w :: st' ∧ v.category = 1 ∧ w.category = 1 ∧ r = .inl (nx, ls, st', h, n)) := by
  simp only [fl_step] at q
  split at q
  · rename_i x st'
    exact Or.inl ⟨x, _, rfl, (Option.some.inj q).symm⟩
  · rename_i v w st' _
    split at q
    · rename_i e
      exact Or.inr ⟨v, w, st', rfl, e.1, e.2, (Option.some.inj q).symm⟩
    · cases q
  · cases q
theorem iv29 {ci : Int} (q : fl_step (29, [ci], nx) (pc, ls, st, h, n) = some r) : n < fl_tot ∧ fl_lay n = (ci.toNat, (fl_N[ci.toNat]?).getD 0) ∧ r = .inl (nx, ls, .ref n :: st, fl_zero h n, n + 1) := by
  simp only [fl_step] at q
  split at q
  · rename_i e
    exact ⟨e.1, e.2, (Option.some.inj q).symm⟩
  · cases q
theorem iv30 {k : Int} (q : fl_step (30, [k], nx) (pc, ls, st, h, n) = some r) : ∃ x st', st = .int x :: st' ∧ n < fl_tot ∧ ¬ x < 0 ∧ fl_lay n = (k.toNat, x.toNatClampNeg) ∧ r = .inl (nx, ls, .ref n :: st', fl_zero h n, n + 1) := by
  simp only [fl_step] at q
  split at q
  · rename_i k' x st' e1
    cases e1
    split at q
    · rename_i e
      exact ⟨x, st', rfl, e.1, e.2.1, e.2.2, (Option.some.inj q).symm⟩
    · cases q
  · cases q
theorem iv31 {ci : Int} (q : fl_step (31, [ci], nx) (pc, ls, st, h, n) = some r) : ∃ x st', st = .int x :: st' ∧ n < fl_tot ∧ ¬ x < 0 ∧ fl_lay n = (30 + ci.toNat, x.toNatClampNeg) ∧ r = .inl (nx, ls, .ref n :: st', fl_zero h n, n + 1) := by
  simp only [fl_step] at q
  split at q
  · rename_i k' x st' e1
    cases e1
    split at q
    · rename_i e
      exact ⟨x, st', rfl, e.1, e.2.1, e.2.2, (Option.some.inj q).symm⟩
    · cases q
  · cases q
theorem iv32 {j : Int} (q : fl_step (32, [j], nx) (pc, ls, st, h, n) = some r) : r = .inl (nx, ls, .ref (1000 + j.toNat) :: st, h, n) := (Option.some.inj q).symm
theorem iv33 {t : Int} (q : fl_step (33, [t], nx) (pc, ls, st, h, n) = some r) : (∃ st', st = .null :: st' ∧ r = .inl (t.toNat, ls, st', h, n)) ∨ (∃ b st', st = .ref b :: st' ∧ r = .inl (nx, ls, st', h, n)) := by
  simp only [fl_step] at q
  split at q
  · rename_i t' st' e1
    cases e1
    exact Or.inl ⟨_, rfl, (Option.some.inj q).symm⟩
  · exact Or.inr ⟨_, _, rfl, (Option.some.inj q).symm⟩
  · cases q
theorem iv34 {t : Int} (q : fl_step (34, [t], nx) (pc, ls, st, h, n) = some r) : (∃ st', st = .null :: st' ∧ r = .inl (nx, ls, st', h, n)) ∨ (∃ b st', st = .ref b :: st' ∧ r = .inl (t.toNat, ls, st', h, n)) := by
  simp only [fl_step] at q
  split at q
  · exact Or.inl ⟨_, rfl, (Option.some.inj q).symm⟩
  · rename_i t' b st' e1
    cases e1
    exact Or.inr ⟨_, _, rfl, (Option.some.inj q).symm⟩
  · cases q
theorem iv35 (q : fl_step (35, a, nx) (pc, ls, st, h, n) = some r) : r = .inl (nx, ls, .null :: st, h, n) := (Option.some.inj q).symm
theorem iv36 (q : fl_step (36, a, nx) (pc, ls, st, h, n) = some r) : ∃ x st', st = .int x :: st' ∧ r = .inl (nx, ls, .long x.toInt64 :: st', h, n) := by
  simp only [fl_step] at q
  split at q
  · exact ⟨_, _, rfl, (Option.some.inj q).symm⟩
  · cases q
theorem iv37 (q : fl_step (37, a, nx) (pc, ls, st, h, n) = some r) : ∃ x y st', st = .long y :: .long x :: st' ∧ r = .inl (nx, ls, .long (x + y) :: st', h, n) := by
  simp only [fl_step] at q
  split at q
  · exact ⟨_, _, _, rfl, (Option.some.inj q).symm⟩
  · cases q
theorem iv38 (q : fl_step (38, a, nx) (pc, ls, st, h, n) = some r) : ∃ x y st', st = .long y :: .long x :: st' ∧ r = .inl (nx, ls, .long (x * y) :: st', h, n) := by
  simp only [fl_step] at q
  split at q
  · exact ⟨_, _, _, rfl, (Option.some.inj q).symm⟩
  · cases q
theorem iv39 {v : Int} (q : fl_step (39, [v], nx) (pc, ls, st, h, n) = some r) : r = .inl (nx, ls, .long (Int64.ofInt v) :: st, h, n) := (Option.some.inj q).symm
theorem iv40 {lo df : Int} {ts : List Int} (q : fl_step (40, lo :: df :: ts, nx) (pc, ls, st, h, n) = some r) : ∃ x st', st = .int x :: st' ∧ ((x.toInt < lo ∧ r = .inl (df.toNat, ls, st', h, n)) ∨ (¬ x.toInt < lo ∧ ts[(x.toInt - lo).toNat]? = none ∧ r = .inl (df.toNat, ls, st', h, n)) ∨ (¬ x.toInt < lo ∧ ∃ t, ts[(x.toInt - lo).toNat]? = some t ∧ r = .inl (t.toNat, ls, st', h, n))) := by
  simp only [fl_step] at q
  split at q
  · rename_i lo' df' ts' x st' e1
    cases e1
    refine ⟨x, st', rfl, ?_⟩
    split at q
    · rename_i e
      exact Or.inl ⟨e, (Option.some.inj q).symm⟩
    · rename_i e
      split at q
      · rename_i t e2
        exact Or.inr (Or.inr ⟨e, t, e2, (Option.some.inj q).symm⟩)
      · rename_i e2
        exact Or.inr (Or.inl ⟨e, e2, (Option.some.inj q).symm⟩)
  · cases q
theorem iv41 (q : fl_step (41, a, nx) (pc, ls, st, h, n) = some r) : ∃ k dp b sp o st', st = .int k :: .int dp :: .ref b :: .int sp :: .ref o :: st' ∧ (n = fl_tot ∧ o < n ∧ b < n ∧ (fl_lay o).1 = 20 ∧ (fl_lay b).1 = 20 ∧ ¬ sp < 0 ∧ ¬ dp < 0 ∧ ¬ k < 0 ∧ sp.toNatClampNeg + k.toNatClampNeg ≤ (fl_lay o).2 ∧ dp.toNatClampNeg + k.toNatClampNeg ≤ (fl_lay b).2 ∧ fl_cat st' ≤ 8) ∧ r = .inl (nx, ls, st', fl_copy h o sp.toNatClampNeg b dp.toNatClampNeg k.toNatClampNeg, n) := by
  simp only [fl_step] at q
  split at q
  · rename_i k dp b sp o st'
    split at q
    · rename_i e
      exact ⟨k, dp, b, sp, o, st', rfl, e, (Option.some.inj q).symm⟩
    · cases q
  · cases q
theorem iv42 (q : fl_step (42, a, nx) (pc, ls, st, h, n) = some r) : ∃ b st', st = .ref b :: st' ∧ fl_cat st' ≤ 8 ∧ r = .inl (nx, ls, st', h, n) := by
  simp only [fl_step] at q
  split at q
  · rename_i b st'
    split at q
    · rename_i e
      exact ⟨b, st', rfl, e, (Option.some.inj q).symm⟩
    · cases q
  · cases q
end INV
