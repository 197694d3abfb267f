
set_option maxRecDepth 20000
/-! MAY AN ACT COME NEXT -/
def TkA (h : Hp) (t : Int) : Prop := ∀ i, 0 ≤ i → i < rd 31 60 h → (rd 32 t h = 0 ∨ rd 32 t h = 5 ∨ (rd 32 t h = 4 ∧ rd 37 (rd 82 i h) h ≠ 3) → 0 ≤ rd 38 (rd 82 i h) h ∧ rd 38 (rd 82 i h) h ≤ 31)
abbrev plKs : List Nat := [86, 87, 88, 89]
theorem c_mc_d {h0 : Hp} {i dp t : Int} (b_i : 0 ≤ i ∧ i ≤ 11) (b_dp : 0 ≤ dp ∧ dp ≤ 11) (b_t : 0 ≤ t ∧ t ≤ 5) (A : TkA h0 t) (hi : i < rd 31 60 h0) (hp : ∀ d, 0 ≤ d → d < dp → rd 83 d h0 < rd 31 60 h0) : ∀ (n : Nat) (d0 : Int) (ls : List (Option Value)) (h : Hp), TInv h → 11 - d0 < n → (0 ≤ d0 ∧ d0 ≤ 11) → d0 ≤ dp → Fq plKs [68, 69] h0 h → rd 31 68 h ≤ d0 → LVs [some (rv 31), some (iv i), some (iv dp), some (iv t), some (iv d0)] ls →
    ∃ v h', (0 ≤ v ∧ v ≤ 1) ∧ (∀ d, 6 ≤ d → Ev d 198 (69, ls, [], h, fl_tot) (some (iv v), h', fl_tot)) ∧ Nx h h' ∧ Fq plKs [68, 69] h0 h' := by
  intro n
  induction n with
  | zero => intro d0 ls h hT h1 h2; omega
  | succ n ih =>
    intro d0 ls h hT h1 b_d hdp F hm hl
    have key : ∀ j, 0 ≤ j → j < rd 31 60 h0 → (rd 32 t h = 0 ∨ rd 32 t h = 5 ∨ (rd 32 t h = 4 ∧ rd 37 (rd 82 j h) h ≠ 3) → 0 ≤ rd 38 (rd 82 j h) h ∧ rd 38 (rd 82 j h) h ≤ 31) := fun j q1 q2 => by
      rw [F.k 32 t rfl, F.k 82 j rfl, F.k 37 _ rfl, F.k 38 _ rfl]
      exact A j q1 q2
    have b82 : ∀ j, 0 ≤ j → j < 40 → 0 ≤ rd 82 j h ∧ rd 82 j h ≤ 39 := fun j q1 q2 => rda_ok hT 82 40 0 39 rfl q1 (by omega)
    rcases s198d hT b_i b_dp b_t b_d hl with ⟨taken7, f0, f1, rfl, T, lv, Hl, K⟩ | ⟨placed8, taken9, f0, f1, f2, f3, f4, rfl, rfl, T, lv, Hl, K⟩
    · obtain ⟨v, h1, v0, v1, v2, v3, v4⟩ := c_plain hT (x := rd 82 i h) (t := t) (b82 i b_i.1 (by omega)) b_t (key i b_i.1 hi) (by omega)
      have K0 := K
      obtain ⟨T, K⟩ := s198f v2.1 b_i b_dp b_t b_d (v := v) v0 Hl
      refine ⟨v, h1, v0, fun d hd => ?_, v2, F.trans v3⟩
      obtain ⟨d, rfl⟩ : ∃ d', d = d' + 1 := ⟨d - 1, by omega⟩
      exact K0 d _ _ _ (by omega) (v1 d (by omega)) (K (d + 1) (by omega))
    · have hd1 : d0 < dp := by omega
      have e83 : rd 83 d0 h = rd 83 d0 h0 := F.k 83 d0 rfl
      have b83 := rda_ok hT 83 12 0 11 rfl (i := d0) b_d.1 (by omega)
      have hpl := hp d0 b_d.1 hd1
      obtain ⟨v, h1', v0, v1, v2, v3, v4⟩ := c_plain hT (x := rd 82 (rd 83 d0 h) h) (t := t) (b82 _ (by omega) (by omega)) b_t (key _ (by omega) (by omega)) (by omega)
      have K0 := K
      obtain ⟨T, lv, Hl, K⟩ := s198e v2.1 b_i b_dp b_t (d := d0) (by omega) (v := v) v0 Hl
      obtain ⟨w, h', w0, w1, w2, w3⟩ := ih (d0 + 1) lv h1' v2.1 (by omega) (by omega) (by omega) (F.trans v3) (by omega) Hl
      refine ⟨w, h', w0, fun d hd => ?_, v2.trans w2, w3⟩
      obtain ⟨d, rfl⟩ : ∃ d', d = d' + 1 := ⟨d - 1, by omega⟩
      exact K0 d _ _ _ (by omega) (v1 d (by omega)) (K (d + 1) _ (by omega) (w1 (d + 1) (by omega)))
theorem c_mc_l {h : Hp} (hT : TInv h) {i dp t : Int} (b_i : 0 ≤ i ∧ i ≤ 11) (b_dp : 0 ≤ dp ∧ dp ≤ 11) (b_t : 0 ≤ t ∧ t ≤ 5) (A : TkA h t) (hi : i < rd 31 60 h) (h12 : rd 31 60 h ≤ 12) (hp : ∀ d, 0 ≤ d → d < dp → rd 83 d h < rd 31 60 h) : ∀ (n : Nat) (k : Int) (ls : List (Option Value)), 40 - k < n → (0 ≤ k ∧ k ≤ 40) → LVs [some (rv 31), some (iv i), some (iv dp), some (iv t), some (iv k)] ls →
    ∃ v h', (0 ≤ v ∧ v ≤ 1) ∧ (∀ d, 6 ≤ d → Ev d 198 (3, ls, [], h, fl_tot) (some (iv v), h', fl_tot)) ∧ Nx h h' ∧ Fq plKs [68, 69] h h' := by
  intro n
  induction n with
  | zero => intro k ls h1 h2; omega
  | succ n ih =>
    intro k ls h1 b_k hl
    have go : ∀ {lv : List (Option Value)}, k < 40 → LVs [some (rv 31), some (iv i), some (iv dp), some (iv t), some (iv (k + 1))] lv → (∀ d rr, 3 ≤ d → Ev d 198 (3, lv, [], h, fl_tot) rr → Ev d 198 (3, ls, [], h, fl_tot) rr) → ∃ v h', (0 ≤ v ∧ v ≤ 1) ∧ (∀ d, 6 ≤ d → Ev d 198 (3, ls, [], h, fl_tot) (some (iv v), h', fl_tot)) ∧ Nx h h' ∧ Fq plKs [68, 69] h h' := fun hk Hl K => by
      obtain ⟨v, h', v0, v1, v2, v3⟩ := ih (k + 1) _ (by omega) (by omega) Hl
      exact ⟨v, h', v0, fun d hd => K d _ (by omega) (v1 d hd), v2, v3⟩
    rcases s198l hT b_i b_dp b_t b_k hl with ⟨takenMany6, f0, rfl, f2⟩ | ⟨takenMany6, f0, rfl, f2, T, lv, Hl, K⟩ | ⟨takenMany6, isPlaced8, f0, f1, f2, rfl, f4, rfl, f6, T, lv, Hl, K⟩ | ⟨takenMany6, isPlaced8, f0, f1, f2, rfl, f4, rfl, f6, f7, T, lv, Hl, K⟩ | ⟨takenMany6, isPlaced8, taken11, endMark12, taken14, beginMark15, f0, f1, f2, f3, f4, f5, f6, rfl, f8, rfl, f10, f11, rfl, rfl, rfl, rfl, f16, T, lv, Hl, K⟩ | ⟨takenMany6, isPlaced8, taken11, endMark12, taken14, beginMark15, f0, f1, f2, f3, f4, f5, f6, rfl, f8, rfl, f10, f11, rfl, rfl, rfl, rfl, f16, T, K⟩
    · exfalso; omega
    · obtain ⟨h1', e1, e2, e3, e4⟩ := c_plainEmpty hT
      have K0 := K
      obtain ⟨T, lv, Hl, K⟩ := s198b e2.1 b_i b_dp b_t (Hl.fg 4 rfl)
      have F : Fq plKs [68, 69] h h1' := e3.wide rfl rfl
      obtain ⟨v, h', v0, v1, v2, v3⟩ := c_mc_d b_i b_dp b_t A hi hp 12 0 lv h1' e2.1 (by omega) (by omega) (by omega) F (by omega) Hl
      refine ⟨v, h', v0, fun d hd => ?_, e2.trans v2, v3⟩
      obtain ⟨d, rfl⟩ : ∃ d', d = d' + 1 := ⟨d - 1, by omega⟩
      exact K0 d _ _ _ (by omega) (e1 d (by omega)) (K (d + 1) _ (by omega) (v1 (d + 1) (by omega)))
    · exact go (by omega) Hl K
    · exact go (by omega) Hl K
    · exact go (by omega) Hl K
    · exact ⟨0, h, by omega, fun d hd => K d (by omega), T, Fq.refl h⟩
theorem c_mayCome {h : Hp} (hT : TInv h) {i dp t : Int} (b_i : 0 ≤ i ∧ i ≤ 11) (b_dp : 0 ≤ dp ∧ dp ≤ 11) (b_t : 0 ≤ t ∧ t ≤ 5) (A : TkA h t) (hi : i < rd 31 60 h) (h12 : rd 31 60 h ≤ 12) (hp : ∀ d, 0 ≤ d → d < dp → rd 83 d h < rd 31 60 h) :
    ∃ v h', (0 ≤ v ∧ v ≤ 1) ∧ (∀ d, 6 ≤ d → Ev d 198 (0, fl_enter 5 [rv 31, iv i, iv dp, iv t], [], h, fl_tot) (some (iv v), h', fl_tot)) ∧ Nx h h' ∧ Fq plKs [68, 69] h h' := by
  obtain ⟨T, lv, Hl, K⟩ := s198 hT b_i b_dp b_t (LVs.self (fl_enter 5 [rv 31, iv i, iv dp, iv t]))
  obtain ⟨v, h', v0, v1, v2, v3⟩ := c_mc_l hT b_i b_dp b_t A hi h12 hp 41 0 lv (by omega) (by omega) Hl
  exact ⟨v, h', v0, fun d hd => K d _ (by omega) (v1 d hd), v2, v3⟩
