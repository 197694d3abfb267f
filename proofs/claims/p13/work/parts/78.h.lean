
set_option maxRecDepth 20000
theorem sumN_le {f g : Int → Int} : ∀ {n : Nat}, (∀ i : Int, 0 ≤ i → i < n → f i ≤ g i) → sumN n f ≤ sumN n g := by
  intro n
  induction n with
  | zero => intro _; exact Int.le_refl _
  | succ n ih =>
    intro h
    have a := ih fun i q1 q2 => h i q1 (by omega)
    have b := h n (by omega) (by omega)
    show sumN n f + f n ≤ sumN n g + g n
    omega
theorem sumN_le1 {f g : Int → Int} {j : Int} : ∀ {n : Nat}, (∀ i : Int, 0 ≤ i → i < n → i ≠ j → f i ≤ g i) → f j ≤ g j + 1 → sumN n f ≤ sumN n g + 1 := by
  intro n
  induction n with
  | zero => intro _ _; show (0 : Int) ≤ 0 + 1; omega
  | succ n ih =>
    intro h hj
    show sumN n f + f n ≤ sumN n g + g n + 1
    by_cases e : (n : Int) = j
    · have a := sumN_le (n := n) (f := f) (g := g) fun i q1 q2 => h i q1 (by omega) (by omega)
      rw [e]
      omega
    · have a := ih (fun i q1 q2 => h i q1 (by omega)) hj
      have b := h n (by omega) (by omega) e
      omega
theorem RI.fr {Ks : List Nat} {fs : List Int} {h h' : Hp} (x : Fq Ks fs h h') (hc : ([32, 34, 35, 36, 37, 38, 43, 44, 49, 51, 52, 53, 54, 63, 65, 66, 67, 69, 74, 75, 76].all (fun K => !Ks.contains K) && ([0, 4, 15, 16, 42] : List Int).all (fun k => !fs.contains k)) = true) (I : RI h) : RI h' := by
  simp only [List.all_cons, List.all_nil, Bool.and_eq_true, Bool.and_true] at hc
  obtain ⟨⟨c32, c34, c35, c36, c37, c38, c43, c44, c49, c51, c52, c53, c54, c63, c65, c66, c67, c69, c74, c75, c76⟩, f0, f4, f15, f16, f42⟩ := hc
  obtain ⟨V, C, R, Y, M, s1, s2⟩ := I
  refine ⟨V.fr x ?_, fun c q1 q2 => ?_, R.fr x ?_, fun t q1 q2 => ?_, M.fr x ?_, ?_, ?_⟩
  · simp only [List.all_cons, List.all_nil, Bool.and_eq_true, Bool.and_true]
    exact ⟨⟨c32, c35, c36, c37, c38⟩, f4, f0⟩
  · rw [x.f 4 (by simpa using f4)] at q2
    refine (C c q1 q2).fr x ?_
    simp only [List.all_cons, List.all_nil, Bool.and_eq_true, Bool.and_true]
    exact ⟨c32, c34, c35, c36, c37, c38, c51, c52, c53, c54⟩
  · simp only [List.all_cons, List.all_nil, Bool.and_eq_true, Bool.and_true]
    exact ⟨⟨c35, c43, c44, c49, c51⟩, f4, f16⟩
  · rw [x.k 69 t (by simpa using c69)]
    have e51 : ∀ i, rd 51 i h' = rd 51 i h := fun i => x.k 51 i (by simpa using c51)
    have ew : ∀ i, wOf h' i = wOf h i := fun i => wOf_fr x (by
      simp only [List.all_cons, List.all_nil, Bool.and_eq_true, Bool.and_true]
      exact ⟨c32, c34, c35, c36, c51⟩) (x.k 52 i (by simpa using c52))
    simp only [e51, ew]
    exact Y t q1 q2
  · simp only [List.all_cons, List.all_nil, Bool.and_eq_true, Bool.and_true]
    exact ⟨⟨c32, c63, c65, c66, c67, c74, c75, c76⟩, f42⟩
  · rw [x.f 42 (by simpa using f42)]; exact s1
  · rw [x.f 42 (by simpa using f42), x.f 15 (by simpa using f15)]; exact s2
theorem RG.fr {Ks : List Nat} {fs : List Int} {h h' : Hp} (x : Fq Ks fs h h') (hc : (([32, 34, 35, 36, 37, 38, 43, 44, 49, 51, 52, 53, 54, 63, 65, 66, 67, 69, 74, 75, 76].all (fun K => !Ks.contains K) && ([0, 4, 15, 16, 42] : List Int).all (fun k => !fs.contains k)) && !fs.contains 13) = true) (G : RG h) : RG h' := by
  rw [Bool.and_eq_true] at hc
  have hc1 := hc.1
  simp only [List.all_cons, List.all_nil, Bool.and_eq_true, Bool.and_true] at hc1
  obtain ⟨⟨c32, c34, c35, c36, c37, c38, c43, c44, c49, c51, c52, c53, c54, c63, c65, c66, c67, c69, c74, c75, c76⟩, f0, f4, f15, f16, f42⟩ := hc1
  refine ⟨G.1.fr x ?_, fun z => (G.2 ?_).fr x hc.1⟩
  · simp only [List.all_cons, List.all_nil, Bool.and_eq_true, Bool.and_true]
    exact ⟨⟨c32, c35, c36, c37, c38⟩, f4, f0⟩
  · rw [← x.f 13 (by simpa using hc.2)]; exact z
abbrev srKs : List Nat := [82, 83, 84, 85, 86, 87, 88, 89]
theorem c_fitsOf {h : Hp} (hT : TInv h) (I : RI h) {t : Int} (b_t : 0 ≤ t ∧ t ≤ 5) : ∃ v h', (∀ d, 9 ≤ d → Ev d 193 (0, fl_enter 3 [rv 31, iv t], [], h, fl_tot) (some (iv v), h', fl_tot)) ∧ Nx h h' ∧ Fq srKs [57, 60, 64, 68, 69] h h' ∧ (-5 ≤ v ∧ v ≤ 1) ∧ (v = 1 → rd 31 60 h' ≤ 12 ∧ ∀ d, 0 ≤ d → d < rd 31 60 h' → rd 83 d h' < rd 31 60 h') := by
  obtain ⟨T, lv, Hl, K⟩ := s193 hT b_t (LVs.self (fl_enter 3 [rv 31, iv t]))
  obtain ⟨v, h1, u1, u2, F, u4, u5⟩ := c_search hT I b_t (most := 3000) (by omega)
  have K0 := K
  have go : ∀ {w : Int}, Nx h1 (wr 31 57 w h1) → (∀ d, 3 ≤ d → Ev d 193 (8, lv, [iv v], h1, fl_tot) (some (iv v), wr 31 57 w h1, fl_tot)) → ∃ v h', (∀ d, 9 ≤ d → Ev d 193 (0, fl_enter 3 [rv 31, iv t], [], h, fl_tot) (some (iv v), h', fl_tot)) ∧ Nx h h' ∧ Fq srKs [57, 60, 64, 68, 69] h h' ∧ (-5 ≤ v ∧ v ≤ 1) ∧ (v = 1 → rd 31 60 h' ≤ 12 ∧ ∀ d, 0 ≤ d → d < rd 31 60 h' → rd 83 d h' < rd 31 60 h') := fun {w} T K => by
    refine ⟨v, _, fun d hd => ?_, u2.trans T, (F.wide rfl rfl).trans ((Fq.refl (Ks := srKs) (fs := [57, 60, 64, 68, 69]) h1).putf 57 w rfl), by omega, fun z => ?_⟩
    · obtain ⟨d, rfl⟩ : ∃ d', d = d' + 1 := ⟨d - 1, by omega⟩
      exact K0 d _ _ _ (by omega) (u1 d (by omega)) (K (d + 1) (by omega))
    · rw [rd_ne (by decide) (by decide) (by decide)]
      refine ⟨(u5 z).1, fun d q1 q2 => ?_⟩
      rw [rd_k rfl]
      exact (u5 z).2 d q1 q2
  rcases s193b u2.1 b_t (v := v) (by omega) Hl with ⟨triesNow4, g1, rfl, f0, f1, rfl, T, K⟩ | ⟨tries4, g1, rfl, f0, f1, f2, rfl, T, K⟩
  · exact go T K
  · exact go T K
theorem c_fits {h : Hp} (hT : TInv h) (G : RG h) {tr : Int} (b_tr : -2147483648 ≤ tr ∧ tr ≤ 2147483647) : PubOut h 192 2 [rv 31, iv tr] := by
  have b0 : 0 ≤ rd 31 0 h ∧ rd 31 0 h ≤ 6 := rdt_ok hT 31 0
  have b13 : 0 ≤ rd 31 13 h ∧ rd 31 13 h ≤ 1 := rdt_ok hT 31 13
  rcases s192 hT b_tr (LVs.self (fl_enter 2 [rv 31, iv tr])) with ⟨trays3, f0, f1, rfl, f3, f4, T, K⟩ | ⟨trays3, f0, f1, rfl, f3, f4, f5, T, K⟩ | ⟨trays3, isRun4, f0, f1, f2, rfl, f4, f5, f6, rfl, f8, T, lv, Hl, K⟩ | ⟨trays3, isRun4, f0, f1, f2, rfl, f4, f5, f6, rfl, f8, T, K⟩
  · exact pub K (by omega) T G
  · exact pub K (by omega) T G
  · have I := G.2 (by omega)
    obtain ⟨v, h', u1, u2, F, u4, u5⟩ := c_fitsOf hT I (t := tr) (by omega)
    have K0 := K
    obtain ⟨T, K⟩ := s192r u2.1 b_tr (v := v) u4 Hl
    refine pub (D := 10) (v := some (iv v)) (fun d hd => ?_) (by omega) u2 (G.fr F rfl)
    obtain ⟨d, rfl⟩ : ∃ d', d = d' + 1 := ⟨d - 1, by omega⟩
    exact K0 d _ _ _ (by omega) (u1 d (by omega)) (K (d + 1) (by omega))
  · exact pub K (by omega) T G
theorem pub1 {h : Hp} {m nL : Nat} {as : List Value} {v : Option Value} {h' : Hp} {D : Nat} (K : ∀ d, D ≤ d → Ev (d + 1) m (0, fl_enter nL as, [], h, fl_tot) (v, h', fl_tot)) (hD : D ≤ 13) (T : Nx h h') (G : RG h') : PubOut h m nL as := pub (D := D + 1) (fun d hd => by
  obtain ⟨d, rfl⟩ : ∃ d', d = d' + 1 := ⟨d - 1, by omega⟩
  exact K d (by omega)) (by omega) T G
theorem c_order {h : Hp} (hT : TInv h) (G : RG h) {tr i : Int} (b_tr : -2147483648 ≤ tr ∧ tr ≤ 2147483647) (b_i : -2147483648 ≤ i ∧ i ≤ 2147483647) : PubOut h 203 3 [rv 31, iv tr, iv i] := by
  have b0 : 0 ≤ rd 31 0 h ∧ rd 31 0 h ≤ 6 := rdt_ok hT 31 0
  have b13 : 0 ≤ rd 31 13 h ∧ rd 31 13 h ≤ 1 := rdt_ok hT 31 13
  rcases s203 hT b_tr b_i (LVs.self (fl_enter 3 [rv 31, iv tr, iv i])) with ⟨trays4, f0, f1, rfl, f3, f4, T, K⟩ | ⟨trays4, f0, f1, rfl, f3, f4, f5, T, K⟩ | ⟨trays4, isRun5, f0, f1, f2, rfl, f4, f5, f6, rfl, f8, T, lv, Hl, K⟩ | ⟨trays4, isRun5, f0, f1, f2, rfl, f4, f5, f6, rfl, f8, T, K⟩
  · exact pub K (by omega) T G
  · exact pub K (by omega) T G
  · have I := G.2 (by omega)
    obtain ⟨v, h', u1, u2, F, u4, u5⟩ := c_fitsOf hT I (t := tr) (by omega)
    have K0 := K
    rcases s203b u2.1 b_tr b_i (v := v) u4 Hl with ⟨f0, f1, T, K⟩ | ⟨takenMany5, f0, f1, f2, rfl, f4⟩ | ⟨takenMany5, f0, f1, f2, f3, rfl, f5, f6, T, K⟩ | ⟨takenMany5, f0, f1, f2, f3, rfl, f5, f6, f7, T, K⟩ | ⟨takenMany5, placed8, taken9, f0, f1, f2, f3, f4, f5, rfl, f7, f8, f9, rfl, rfl, T, K⟩
    all_goals first | (exfalso; have := u5 (by omega); omega) | skip
    all_goals exact pub1 (D := 9) (fun d hd => K0 d _ _ _ (by omega) (u1 d (by omega)) (K (d + 1) (by omega))) (by omega) u2 (G.fr F rfl)
  · exact pub K (by omega) T G
theorem c_first_l : ∀ (n : Nat) (c : Int) (ls : List (Option Value)) (h : Hp), TInv h → RI h → 6 - c < n → (0 ≤ c ∧ c ≤ 6) → LVs [some (rv 31), some (iv c)] ls → ∃ v h', (∀ d, 10 ≤ d → Ev d 205 (12, ls, [], h, fl_tot) (some (iv v), h', fl_tot)) ∧ Nx h h' ∧ Fq srKs [57, 60, 64, 68, 69] h h' := by
  intro n
  induction n with
  | zero => intro c ls h hT I h1 h2; omega
  | succ n ih =>
    intro c ls h hT I h1 b_c hl
    have b0 : 0 ≤ rd 31 0 h ∧ rd 31 0 h ≤ 6 := rdt_ok hT 31 0
    rcases s205l hT b_c hl with ⟨trays3, f0, rfl, f2, T, K⟩ | ⟨trays3, f0, f1, rfl, f3, T, lv, Hl, K⟩
    · exact ⟨-1, h, fun d hd => K d (by omega), T, Fq.refl h⟩
    · obtain ⟨v, h1', u1, u2, F, u4, u5⟩ := c_fitsOf hT I (t := c) (by omega)
      have K0 := K
      rcases s205b u2.1 (c := c) (by omega) (v := v) u4 Hl with ⟨f0, T, lv, Hl, K⟩ | ⟨f0, f1, T, K⟩
      · obtain ⟨w, h', z1, z2, z3⟩ := ih (c + 1) lv h1' u2.1 (I.fr F rfl) (by omega) (by omega) Hl
        refine ⟨w, h', fun d hd => ?_, u2.trans z2, F.trans z3⟩
        obtain ⟨d, rfl⟩ : ∃ d', d = d' + 1 := ⟨d - 1, by omega⟩
        exact K0 d _ _ _ (by omega) (u1 d (by omega)) (K (d + 1) _ (by omega) (z1 (d + 1) (by omega)))
      · refine ⟨c, h1', fun d hd => ?_, u2, F⟩
        obtain ⟨d, rfl⟩ : ∃ d', d = d' + 1 := ⟨d - 1, by omega⟩
        exact K0 d _ _ _ (by omega) (u1 d (by omega)) (K (d + 1) (by omega))
theorem c_first {h : Hp} (hT : TInv h) (G : RG h) : PubOut h 205 2 [rv 31] := by
  have b13 : 0 ≤ rd 31 13 h ∧ rd 31 13 h ≤ 1 := rdt_ok hT 31 13
  rcases s205 hT (LVs.self (fl_enter 2 [rv 31])) with ⟨isRun2, f0, rfl, f2, T, lv, Hl, K⟩ | ⟨isRun2, f0, rfl, f2, T, K⟩
  · obtain ⟨w, h', z1, z2, z3⟩ := c_first_l 7 0 lv h hT (G.2 (by omega)) (by omega) (by omega) Hl
    exact pub (D := 10) (fun d hd => K d _ (by omega) (z1 d hd)) (by omega) z2 (G.fr z3 rfl)
  · exact pub K (by omega) T G
/-! CARDS BY NUMBER -/
def rix (h : Hp) (t k : Int) : Int := if rd 66 (32 * t + k) h = 1 then rd 74 (4 * t + k % 4) h + rd 65 (32 * t + k) h else rd 65 (32 * t + k) h
def aft (h : Hp) (t s r bf k : Int) : Int := if rd 63 (32 * t + k) h = 1 ∧ (s < k % 4 ∨ (k % 4 = s ∧ (r < rix h t k ∨ (rix h t k = r ∧ rd 67 (32 * t + k) h < bf)))) then 1 else 0
def aftN (h : Hp) (t s r bf : Int) : Int := sumN 32 (fun k => aft h t s r bf k)
def rowF (h : Hp) (t s r fr rr : Int) : Prop := (rd 75 (4 * t + s) h = 1 ∧ rd 74 (4 * t + s) h ≤ r ∧ fr = 1 ∧ rr = r - rd 74 (4 * t + s) h) ∨ (¬ (rd 75 (4 * t + s) h = 1 ∧ rd 74 (4 * t + s) h ≤ r) ∧ fr = 0 ∧ rr = r)
theorem aft_row {h : Hp} (M : MP h) {t s r fr rr k : Int} (hT : TInv h) (b_t : 0 ≤ t ∧ t ≤ 5) (hk : rd 32 t h = 0) (b_k : 0 ≤ k ∧ k < 32) (R : rowF h t s r fr rr) (h1 : rd 63 (32 * t + k) h = 1) (h2 : k % 4 = s) (h3 : rix h t k = r) (bf : Int) (h4 : rd 67 (32 * t + k) h < bf) : inRow h t fr rr bf k := by
  have C := M.2.1 t k b_t.1 b_t.2 hk b_k.1 b_k.2 (by omega) h1
  unfold cardOK at C
  have b65 := rda_ok hT 65 192 0 7 rfl (i := 32 * t + k) (by omega) (by omega)
  have b66 := rda_ok hT 66 192 0 1 rfl (i := 32 * t + k) (by omega) (by omega)
  unfold rix at h3
  unfold rowF at R
  rw [h2] at C h3
  refine ⟨h1, ?_, ?_, h4⟩
  · split at h3
    · have := C.2.1 (by omega)
      omega
    · have := C.1 (by omega)
      omega
  · split at h3
    · have := C.2.1 (by omega)
      omega
    · have := C.1 (by omega)
      omega
theorem aft_next {h : Hp} (M : MP h) {t s r fr rr bf : Int} (hT : TInv h) (b_t : 0 ≤ t ∧ t ≤ 5) (hk : rd 32 t h = 0) (R : rowF h t s r fr rr) (N : nxP h t s fr rr bf 32 (-1)) : aftN h t s r bf ≤ aftN h t s (r + 1) (rd 31 42 h + 1) := by
  refine sumN_le fun k q1 q2 => ?_
  unfold aft
  split
  · rename_i z
    rw [if_pos]
    · exact Int.le_refl _
    · have C := M.2.1 t k b_t.1 b_t.2 hk q1 q2 (by omega) z.1
      unfold cardOK at C
      refine ⟨z.1, ?_⟩
      rcases z.2 with z2 | ⟨z2, z3 | ⟨z3, z4⟩⟩
      · exact Or.inl z2
      · refine Or.inr ⟨z2, ?_⟩
        by_cases e : r + 1 < rix h t k
        · exact Or.inl e
        · exact Or.inr ⟨by omega, by omega⟩
      · exfalso
        rcases N with ⟨-, N⟩ | ⟨N, -⟩
        · exact N k q1 q2 q2 z2 (aft_row M hT b_t hk ⟨q1, q2⟩ R z.1 z2 z3 bf z4)
        · omega
  · split
    · decide
    · exact Int.le_refl _
theorem aft_one {h : Hp} (M : MP h) {t s r fr rr bf v : Int} (hT : TInv h) (b_t : 0 ≤ t ∧ t ≤ 5) (hk : rd 32 t h = 0) (R : rowF h t s r fr rr) (hv : 0 ≤ v) (N : nxP h t s fr rr bf 32 v) : aftN h t s r bf ≤ aftN h t s r (rd 67 (32 * t + v) h) + 1 := by
  obtain ⟨v1, v2, v3, v4⟩ : v < 32 ∧ v % 4 = s ∧ inRow h t fr rr bf v ∧ ∀ k, 0 ≤ k → k < 32 → k < 32 → k % 4 = s → inRow h t fr rr bf k → rd 67 (32 * t + k) h ≤ rd 67 (32 * t + v) h := by
    rcases N with ⟨N, -⟩ | ⟨-, N⟩
    · omega
    · exact N
  have a1 : ∀ k, 0 ≤ aft h t s r bf k ∧ aft h t s r bf k ≤ 1 := fun k => by unfold aft; split <;> omega
  have a2 : ∀ k, 0 ≤ aft h t s r (rd 67 (32 * t + v) h) k ∧ aft h t s r (rd 67 (32 * t + v) h) k ≤ 1 := fun k => by unfold aft; split <;> omega
  refine sumN_le1 (j := v) (fun k q1 q2 q3 => ?_) ?_
  · show aft h t s r bf k ≤ aft h t s r (rd 67 (32 * t + v) h) k
    unfold aft
    split
    · rename_i z
      rw [if_pos]
      · exact Int.le_refl _
      · refine ⟨z.1, ?_⟩
        rcases z.2 with z2 | ⟨z2, z3 | ⟨z3, z4⟩⟩
        · exact Or.inl z2
        · exact Or.inr ⟨z2, Or.inl z3⟩
        · have i := aft_row M hT b_t hk ⟨q1, q2⟩ R z.1 z2 z3 bf z4
          have l := v4 k q1 q2 q2 z2 i
          have ne := M.2.2 t k v b_t.1 b_t.2 hk q1 q2 hv v1 q3 (by omega) (by omega) z.1 v3.1
          exact Or.inr ⟨z2, Or.inr ⟨z3, by omega⟩⟩
    · split
      · decide
      · exact Int.le_refl _
  · show aft h t s r bf v ≤ aft h t s r (rd 67 (32 * t + v) h) v + 1
    have := a1 v
    have := a2 v
    omega
theorem aft_stripe {h : Hp} (M : MP h) {t s r bf : Int} (hT : TInv h) (b_t : 0 ≤ t ∧ t ≤ 5) (hk : rd 32 t h = 0) (hr : (rd 75 (4 * t + s) h = 0 ∧ rd 74 (4 * t + s) h ≤ r) ∨ 3 * rd 74 (4 * t + s) h ≤ r) : aftN h t s r bf ≤ aftN h t (s + 1) 0 (rd 31 42 h + 1) := by
  refine sumN_le fun k q1 q2 => ?_
  unfold aft
  split
  · rename_i z
    have C := M.2.1 t k b_t.1 b_t.2 hk q1 q2 (by omega) z.1
    unfold cardOK at C
    have b65 := rda_ok hT 65 192 0 7 rfl (i := 32 * t + k) (by omega) (by omega)
    have b66 := rda_ok hT 66 192 0 1 rfl (i := 32 * t + k) (by omega) (by omega)
    have hix : 0 ≤ rix h t k := by
      have b74 := rda_ok hT 74 24 0 8 rfl (i := 4 * t + k % 4) (by omega) (by omega)
      unfold rix
      split <;> omega
    have hlim : k % 4 = s → rix h t k < r := fun e => by
      rw [e] at C
      have b74 := rda_ok hT 74 24 0 8 rfl (i := 4 * t + k % 4) (by omega) (by omega)
      unfold rix
      rw [e] at b74 ⊢
      split
      · have := C.2.1 (by omega)
        omega
      · have := C.1 (by omega)
        omega
    rw [if_pos]
    · exact Int.le_refl _
    · refine ⟨z.1, ?_⟩
      rcases z.2 with z2 | ⟨z2, z3⟩
      · by_cases e : s + 1 < k % 4
        · exact Or.inl e
        · refine Or.inr ⟨by omega, ?_⟩
          by_cases e2 : 0 < rix h t k
          · exact Or.inl e2
          · exact Or.inr ⟨by omega, by omega⟩
      · have := hlim z2
        omega
  · split
    · decide
    · exact Int.le_refl _
theorem aft_end {h : Hp} {t s r bf : Int} (hs : 4 ≤ s) : aftN h t s r bf ≤ 0 := by
  have e : sumN 32 (fun _ => 0) = 0 := rfl
  rw [← e]
  refine sumN_le fun k q1 q2 => ?_
  unfold aft
  rw [if_neg (by omega)]
  exact Int.le_refl _
theorem aft_all {h : Hp} (M : MP h) {t : Int} (hT : TInv h) (b_t : 0 ≤ t ∧ t ≤ 5) (hk : rd 32 t h = 0) : sumN 32 (fun k => rd 63 (32 * t + k) h) ≤ aftN h t 0 0 (rd 31 42 h + 1) := by
  refine sumN_le fun k q1 q2 => ?_
  have b63 := rda_ok hT 63 192 0 1 rfl (i := 32 * t + k) (by omega) (by omega)
  unfold aft
  split
  · omega
  · rename_i z
    by_cases e : rd 63 (32 * t + k) h = 1
    · exfalso
      apply z
      have C := M.2.1 t k b_t.1 b_t.2 hk q1 q2 (by omega) e
      unfold cardOK at C
      have b65 := rda_ok hT 65 192 0 7 rfl (i := 32 * t + k) (by omega) (by omega)
      have hix : 0 ≤ rix h t k := by
        have b74 := rda_ok hT 74 24 0 8 rfl (i := 4 * t + k % 4) (by omega) (by omega)
        unfold rix
        split <;> omega
      refine ⟨e, ?_⟩
      by_cases e1 : 0 < k % 4
      · exact Or.inl e1
      · refine Or.inr ⟨by omega, ?_⟩
        by_cases e2 : 0 < rix h t k
        · exact Or.inl e2
        · exact Or.inr ⟨by omega, by omega⟩
    · omega
def MkOut (h : Hp) (pc : Nat) (ls : List (Option Value)) : Prop := ∃ v, (0 ≤ v ∧ v ≤ 31) ∧ ∀ d, 5 ≤ d → Ev d 189 (pc, ls, [], h, fl_tot) (some (iv v), h, fl_tot)
theorem c_mk_c {h : Hp} (hT : TInv h) (M : MP h) (hS : 0 ≤ rd 31 42 h ∧ rd 31 42 h ≤ 90000) {t i s r fr rr n gr : Int} (b_t : 0 ≤ t ∧ t ≤ 5) (hk : rd 32 t h = 0) (b_i : 0 ≤ i ∧ i ≤ 39) (b_s : 0 ≤ s ∧ s ≤ 3) (hn : n = rd 74 (4 * t + s) h) (hg : gr = rd 75 (4 * t + s) h) (b_r : 0 ≤ r ∧ r ≤ 23) (b_rr : 0 ≤ rr ∧ rr ≤ 8) (R : rowF h t s r fr rr) : ∀ (m : Nat) (left key bf : Int) (ls : List (Option Value)), left < m → (0 ≤ left ∧ left ≤ 39) → nxP h t s fr rr bf 32 key → left < aftN h t s r bf → LVs [some (rv 31), some (iv t), some (iv i), some (iv left), some (iv s), some (iv n), some (iv gr), some (iv r), some (iv fr), some (iv key)] ls →
    MkOut h 104 ls ∨ ∃ left' lv, (0 ≤ left' ∧ left' ≤ 39) ∧ left' < aftN h t s (r + 1) (rd 31 42 h + 1) ∧ LVs [some (rv 31), some (iv t), some (iv i), some (iv left'), some (iv s), some (iv n), some (iv gr), some (iv (r + 1)), none, none] lv ∧ ∀ d q, 5 ≤ d → Ev d 189 (40, lv, [], h, fl_tot) q → Ev d 189 (104, ls, [], h, fl_tot) q := by
  have b74 := rda_ok hT 74 24 0 8 rfl (i := 4 * t + s) (by omega) (by omega)
  have b75 := rda_ok hT 75 24 0 1 rfl (i := 4 * t + s) (by omega) (by omega)
  have b_fr : 0 ≤ fr ∧ fr ≤ 1 := by unfold rowF at R; omega
  intro m
  induction m with
  | zero => intro left key bf ls h1 h2; omega
  | succ m ih =>
    intro left key bf ls h1 b_left N hlt hl
    have b_key : -1 ≤ key ∧ key ≤ 31 := by
      rcases N with ⟨N, -⟩ | ⟨N, N2, -⟩ <;> omega
    have go : ∀ {lv : List (Option Value)}, 0 ≤ key → left ≠ 0 → LVs [some (rv 31), some (iv t), some (iv i), some (iv (left + -1)), some (iv s), some (iv n), some (iv gr), some (iv r), some (iv fr), some (iv key)] lv → (∀ d vv hh q, 2 ≤ d → Ev d 165 (0, fl_enter 10 [rv 31, iv t, iv s, iv fr, iv rr, iv (rd 67 (32 * t + key) h)], [], h, fl_tot) (vv, hh, fl_tot) → Ev (d + 1) 189 (156, lv, vv.toList ++ [], hh, fl_tot) q → Ev (d + 1) 189 (104, ls, [], h, fl_tot) q) →
        MkOut h 104 ls ∨ ∃ left' lv, (0 ≤ left' ∧ left' ≤ 39) ∧ left' < aftN h t s (r + 1) (rd 31 42 h + 1) ∧ LVs [some (rv 31), some (iv t), some (iv i), some (iv left'), some (iv s), some (iv n), some (iv gr), some (iv (r + 1)), none, none] lv ∧ ∀ d q, 5 ≤ d → Ev d 189 (40, lv, [], h, fl_tot) q → Ev d 189 (104, ls, [], h, fl_tot) q := fun {lv} hk0 hl0 Hl K0 => by
      have b67 := rd_int 67 (32 * t + key) h
      obtain ⟨v, w1, w2⟩ := c_nextOf hT b_t b_s b_fr b_rr (bf := rd 67 (32 * t + key) h) b67
      have b_v : -1 ≤ v ∧ v ≤ 31 := by
        rcases w1 with ⟨w1, -⟩ | ⟨w1, w3, -⟩ <;> omega
      have one := aft_one M hT b_t hk R hk0 N
      obtain ⟨T, lv, Hl, K⟩ := s189e hT b_t b_i (left := left + -1) (by omega) b_s (n := n) (by omega) (gr := gr) (by omega) (r := r) (by omega) b_fr (key := key) (by omega) (v := v) b_v Hl
      rcases ih (left + -1) v _ lv (by omega) (by omega) w1 (by omega) Hl with ⟨x, x1, x2⟩ | ⟨left', lv', x1, x2, x3, x4⟩
      · refine Or.inl ⟨x, x1, fun d hd => ?_⟩
        obtain ⟨d, rfl⟩ : ∃ d', d = d' + 1 := ⟨d - 1, by omega⟩
        exact K0 d _ _ _ (by omega) (w2 d (by omega)) (K (d + 1) _ (by omega) (x2 (d + 1) (by omega)))
      · refine Or.inr ⟨left', lv', x1, x2, x3, fun d q hd e => ?_⟩
        obtain ⟨d, rfl⟩ : ∃ d', d = d' + 1 := ⟨d - 1, by omega⟩
        exact K0 d _ _ _ (by omega) (w2 d (by omega)) (K (d + 1) _ (by omega) (x4 (d + 1) _ (by omega) e))
    rcases s189d hT b_t b_i b_left b_s (n := n) (by omega) (gr := gr) (by omega) (r := r) (by omega) b_fr b_key hl with ⟨f0, f1, T, lv, Hl, K⟩ | ⟨n12, n13, stamp14, f0, f1, f2, f3, f4, f5, f6, f7, f8, rfl, rfl, rfl, T, lv, Hl, K⟩ | ⟨n11, n13, n14, stamp15, f0, f1, f2, f3, f4, f5, f6, f7, f8, f9, rfl, rfl, rfl, rfl, T, lv, Hl, K⟩ | ⟨f0, f1, f2, f3, T, K⟩
    · refine Or.inr ⟨left, lv, b_left, ?_, (Hl.fg 8 rfl).fg 9 rfl, fun d q hd e => K d q (by omega) e⟩
      have e1 : key = -1 := by omega
      rw [e1] at N
      have := aft_next M hT b_t hk R N
      omega
    · have er : rr = r := by unfold rowF at R; omega
      rw [er] at go
      exact go (by omega) (by omega) Hl (fun d vv hh q hd e1 e2 => K d vv hh q (by omega) e1 e2)
    · have er : rr = r - n := by unfold rowF at R; omega
      rw [er] at go
      exact go (by omega) (by omega) Hl (fun d vv hh q hd e1 e2 => K d vv hh q (by omega) e1 e2)
    · exact Or.inl ⟨key, by omega, fun d hd => K d (by omega)⟩
theorem c_mk_b {h : Hp} (hT : TInv h) (M : MP h) (hS : 0 ≤ rd 31 42 h ∧ rd 31 42 h ≤ 90000) {t i s n gr : Int} (b_t : 0 ≤ t ∧ t ≤ 5) (hk : rd 32 t h = 0) (b_i : 0 ≤ i ∧ i ≤ 39) (b_s : 0 ≤ s ∧ s ≤ 3) (hn : n = rd 74 (4 * t + s) h) (hg : gr = rd 75 (4 * t + s) h) : ∀ (m : Nat) (left r : Int) (ls : List (Option Value)), 24 - r < m → (0 ≤ r ∧ r ≤ 24) → (0 ≤ left ∧ left ≤ 39) → left < aftN h t s r (rd 31 42 h + 1) → LVs [some (rv 31), some (iv t), some (iv i), some (iv left), some (iv s), some (iv n), some (iv gr), some (iv r), none, none] ls →
    MkOut h 40 ls ∨ ∃ left' lv, (0 ≤ left' ∧ left' ≤ 39) ∧ left' < aftN h t (s + 1) 0 (rd 31 42 h + 1) ∧ LVs [some (rv 31), some (iv t), some (iv i), some (iv left'), some (iv (s + 1)), none, none, none, none, none] lv ∧ ∀ d q, 5 ≤ d → Ev d 189 (5, lv, [], h, fl_tot) q → Ev d 189 (40, ls, [], h, fl_tot) q := by
  have b74 := rda_ok hT 74 24 0 8 rfl (i := 4 * t + s) (by omega) (by omega)
  have b75 := rda_ok hT 75 24 0 1 rfl (i := 4 * t + s) (by omega) (by omega)
  have hM := M.1 (4 * t + s) (by omega) (by omega)
  intro m
  induction m with
  | zero => intro left r ls h1 h2; omega
  | succ m ih =>
    intro left r ls h1 b_r b_left hlt hl
    have go : ∀ {fr rr : Int} {lv : List (Option Value)}, r ≤ 23 → (0 ≤ rr ∧ rr ≤ 8) → rowF h t s r fr rr → LVs [some (rv 31), some (iv t), some (iv i), some (iv left), some (iv s), some (iv n), some (iv gr), some (iv r), some (iv fr), none] lv → (∀ d vv hh q, 2 ≤ d → Ev d 164 (0, fl_enter 5 [rv 31, iv t, iv s, iv fr, iv rr], [], h, fl_tot) (vv, hh, fl_tot) → Ev (d + 1) 189 (102, lv, vv.toList ++ [], hh, fl_tot) q → Ev (d + 1) 189 (40, ls, [], h, fl_tot) q) →
        MkOut h 40 ls ∨ ∃ left' lv, (0 ≤ left' ∧ left' ≤ 39) ∧ left' < aftN h t (s + 1) 0 (rd 31 42 h + 1) ∧ LVs [some (rv 31), some (iv t), some (iv i), some (iv left'), some (iv (s + 1)), none, none, none, none, none] lv ∧ ∀ d q, 5 ≤ d → Ev d 189 (5, lv, [], h, fl_tot) q → Ev d 189 (40, ls, [], h, fl_tot) q := fun {fr rr lv} b_r2 b_rr R Hl K0 => by
      have b_fr : 0 ≤ fr ∧ fr ≤ 1 := by unfold rowF at R; omega
      obtain ⟨v, w1, w2⟩ := c_headOf hT b_t b_s b_fr b_rr (by omega)
      have b_v : -1 ≤ v ∧ v ≤ 31 := by
        rcases w1 with ⟨w1, -⟩ | ⟨w1, w3, -⟩ <;> omega
      obtain ⟨T, lv, Hl, K⟩ := s189c hT b_t b_i b_left b_s (n := n) (by omega) (gr := gr) (by omega) (r := r) (by omega) b_fr (v := v) b_v Hl
      rcases c_mk_c hT M hS b_t hk b_i b_s hn hg (r := r) (by omega) b_rr R 40 left v _ lv (by omega) b_left w1 hlt Hl with ⟨x, x1, x2⟩ | ⟨left', lv', x1, x2, x3, x4⟩
      · refine Or.inl ⟨x, x1, fun d hd => ?_⟩
        obtain ⟨d, rfl⟩ : ∃ d', d = d' + 1 := ⟨d - 1, by omega⟩
        exact K0 d _ _ _ (by omega) (w2 d (by omega)) (K (d + 1) _ (by omega) (x2 (d + 1) (by omega)))
      · rcases ih left' (r + 1) lv' (by omega) (by omega) x1 x2 x3 with ⟨y, y1, y2⟩ | ⟨left2, lv2, y1, y2, y3, y4⟩
        · refine Or.inl ⟨y, y1, fun d hd => ?_⟩
          obtain ⟨d, rfl⟩ : ∃ d', d = d' + 1 := ⟨d - 1, by omega⟩
          exact K0 d _ _ _ (by omega) (w2 d (by omega)) (K (d + 1) _ (by omega) (x4 (d + 1) _ (by omega) (y2 (d + 1) (by omega))))
        · refine Or.inr ⟨left2, lv2, y1, y2, y3, fun d q hd e => ?_⟩
          obtain ⟨d, rfl⟩ : ∃ d', d = d' + 1 := ⟨d - 1, by omega⟩
          exact K0 d _ _ _ (by omega) (w2 d (by omega)) (K (d + 1) _ (by omega) (x4 (d + 1) _ (by omega) (y4 (d + 1) _ (by omega) e)))
    rcases s189b hT b_t b_i b_left b_s (n := n) (by omega) (gr := gr) (by omega) b_r hl with ⟨f0, f1, f2, T, lv, Hl, K⟩ | ⟨f0, f1, f2, f3, f4, f5, f6, T, lv, Hl, K⟩ | ⟨n9, f0, f1, f2, rfl, f4, T, lv, Hl, K⟩ | ⟨n9, f0, f1, f2, f3, f4, rfl, f6, f7, f8, f9, T, lv, Hl, K⟩ | ⟨n9, n10, f0, f1, f2, f3, f4, rfl, f6, f7, f8, f9, rfl, T, lv, Hl, K⟩
    · refine Or.inr ⟨left, lv, b_left, ?_, ((Hl.fg 5 rfl).fg 6 rfl).fg 7 rfl, fun d q hd e => K d q (by omega) e⟩
      have := aft_stripe M (r := r) (bf := rd 31 42 h + 1) hT b_t hk (s := s) (by omega)
      omega
    · exact go (by omega) (by omega) (Or.inr ⟨by omega, rfl, rfl⟩) Hl K
    · refine Or.inr ⟨left, lv, b_left, ?_, ((Hl.fg 5 rfl).fg 6 rfl).fg 7 rfl, fun d q hd e => K d q (by omega) e⟩
      have := aft_stripe M (r := r) (bf := rd 31 42 h + 1) hT b_t hk (s := s) (by omega)
      omega
    · exact go (by omega) (by omega) (Or.inr ⟨by omega, rfl, rfl⟩) Hl K
    · exact go (by omega) (by omega) (Or.inl ⟨by omega, by omega, rfl, by omega⟩) Hl K
theorem c_mk_a {h : Hp} (hT : TInv h) (M : MP h) (hS : 0 ≤ rd 31 42 h ∧ rd 31 42 h ≤ 90000) {t i : Int} (b_t : 0 ≤ t ∧ t ≤ 5) (hk : rd 32 t h = 0) (b_i : 0 ≤ i ∧ i ≤ 39) : ∀ (m : Nat) (left s : Int) (ls : List (Option Value)), 4 - s < m → (0 ≤ s ∧ s ≤ 4) → (0 ≤ left ∧ left ≤ 39) → left < aftN h t s 0 (rd 31 42 h + 1) → LVs [some (rv 31), some (iv t), some (iv i), some (iv left), some (iv s), none, none, none, none, none] ls → MkOut h 5 ls := by
  intro m
  induction m with
  | zero => intro left s ls h1 h2; omega
  | succ m ih =>
    intro left s ls h1 b_s b_left hlt hl
    rcases s189a hT b_t b_i b_left b_s hl with ⟨f0, f1, T, K⟩ | ⟨n7, n8, rows9, n11, n12, grows13, f0, f1, f2, f3, f4, f5, f6, f7, rfl, rfl, rfl, rfl, rfl, rfl, T, lv, Hl, K⟩
    · exfalso
      have := aft_end (h := h) (t := t) (r := 0) (bf := rd 31 42 h + 1) (s := s) (by omega)
      omega
    · rcases c_mk_b hT M hS b_t hk b_i (s := s) (by omega) rfl rfl 25 left 0 lv (by omega) (by omega) b_left hlt Hl with ⟨y, y1, y2⟩ | ⟨left2, lv2, y1, y2, y3, y4⟩
      · exact ⟨y, y1, fun d hd => K d _ (by omega) (y2 d hd)⟩
      · obtain ⟨x, x1, x2⟩ := ih left2 (s + 1) lv2 (by omega) (by omega) y1 y2 y3
        exact ⟨x, x1, fun d hd => K d _ (by omega) (y4 d _ hd (x2 d hd))⟩
theorem c_mapKey {h : Hp} (hT : TInv h) (M : MP h) (hS : 0 ≤ rd 31 42 h ∧ rd 31 42 h ≤ 90000) {t i : Int} (b_t : 0 ≤ t ∧ t ≤ 5) (hk : rd 32 t h = 0) (b_i : 0 ≤ i ∧ i ≤ 39) (hi : i < szV h t) : ∃ v, (0 ≤ v ∧ v ≤ 31) ∧ ∀ d, 5 ≤ d → Ev d 189 (0, fl_enter 10 [rv 31, iv t, iv i], [], h, fl_tot) (some (iv v), h, fl_tot) := by
  obtain ⟨T, lv, Hl, K⟩ := s189 hT b_t b_i (LVs.self (fl_enter 10 [rv 31, iv t, iv i]))
  have a := aft_all M hT b_t hk
  unfold szV at hi
  rw [if_neg (by omega), if_neg (by omega)] at hi
  obtain ⟨x, x1, x2⟩ := c_mk_a hT M hS b_t hk b_i 5 i 0 lv (by omega) (by omega) b_i (by omega) Hl
  exact ⟨x, x1, fun d hd => K d _ (by omega) (x2 d hd)⟩
def hasN (h : Hp) (t k : Int) : Int := sumN 32 (fun j => if k ≤ j then rd 63 (32 * t + j) h else 0)
theorem hasN_step {h : Hp} (hT : TInv h) {t k : Int} (b_t : 0 ≤ t ∧ t ≤ 5) (b_k : 0 ≤ k ∧ k < 32) : hasN h t k = hasN h t (k + 1) + rd 63 (32 * t + k) h := by
  have := sumN_upd (n := 32) (f := fun j => if k + 1 ≤ j then rd 63 (32 * t + j) h else 0) (g := fun j => if k ≤ j then rd 63 (32 * t + j) h else 0) (j := k) b_k.1 (by omega) (fun i q1 q2 q3 => by
    show (if k ≤ i then rd 63 (32 * t + i) h else 0) = (if k + 1 ≤ i then rd 63 (32 * t + i) h else 0)
    by_cases e : k ≤ i
    · rw [if_pos e, if_pos (by omega)]
    · rw [if_neg e, if_neg (by omega)])
  simp only [if_neg (show ¬ k + 1 ≤ k by omega), if_pos (show k ≤ k by omega)] at this
  unfold hasN
  omega
theorem c_ko_l {h : Hp} (hT : TInv h) {t i : Int} (b_t : 0 ≤ t ∧ t ≤ 5) (b_i : 0 ≤ i ∧ i ≤ 39) : ∀ (m : Nat) (left k : Int) (ls : List (Option Value)), 32 - k < m → (0 ≤ k ∧ k ≤ 32) → (0 ≤ left ∧ left ≤ 39) → left < hasN h t k → LVs [some (rv 31), some (iv t), some (iv i), some (iv left), some (iv k)] ls → ∃ v, (0 ≤ v ∧ v ≤ 31) ∧ ∀ d, 3 ≤ d → Ev d 188 (43, ls, [], h, fl_tot) (some (iv v), h, fl_tot) := by
  intro m
  induction m with
  | zero => intro left k ls h1 h2; omega
  | succ m ih =>
    intro left k ls h1 b_k b_left hlt hl
    have hk : k ≠ 32 := fun e => by
      have z : hasN h t k ≤ 0 := by
        have e0 : sumN 32 (fun _ => 0) = 0 := rfl
        rw [← e0]
        refine sumN_le fun j q1 q2 => ?_
        rw [if_neg (by omega)]
        exact Int.le_refl _
      omega
    have st := hasN_step hT b_t (k := k) (by omega)
    have b63 := rda_ok hT 63 192 0 1 rfl (i := 32 * t + k) (by omega) (by omega)
    rcases s188l hT b_t b_i b_left (k := k) (by omega) hl with ⟨n7, n8, has9, n10, n11, has12, f0, f1, f2, f3, f4, f5, rfl, rfl, rfl, f9, rfl, rfl, rfl, f13, T, lv, Hl, K⟩ | ⟨n7, n8, has9, n10, n11, has12, f0, f1, f2, f3, f4, f5, rfl, rfl, rfl, f9, rfl, rfl, rfl, f13, T, lv, Hl, K⟩ | ⟨n7, n8, has9, f0, f1, f2, f3, rfl, rfl, rfl, f7, f8, T, K⟩ | ⟨n7, n8, has9, n10, n11, has12, f0, f1, f2, f3, f4, f5, f6, rfl, rfl, rfl, f10, f11, rfl, rfl, rfl, f15, T, lv, Hl, K⟩ | ⟨n7, n8, has9, n10, n11, has12, f0, f1, f2, f3, f4, f5, f6, rfl, rfl, rfl, f10, f11, rfl, rfl, rfl, f15, T, lv, Hl, K⟩
    · obtain ⟨v, v0, v1⟩ := ih left (k + 1) lv (by omega) (by omega) b_left (by omega) Hl
      exact ⟨v, v0, fun d hd => K d _ hd (v1 d hd)⟩
    · exfalso; omega
    · exact ⟨k, by omega, K⟩
    · exfalso; omega
    · obtain ⟨v, v0, v1⟩ := ih (left + -1) (k + 1) lv (by omega) (by omega) (by omega) (by omega) Hl
      exact ⟨v, v0, fun d hd => K d _ hd (v1 d hd)⟩
theorem c_keyOf {h : Hp} (hT : TInv h) (I : RI h) {t i : Int} (b_t : 0 ≤ t ∧ t ≤ 5) (b_i : 0 ≤ i ∧ i ≤ 39) (hi : i < szV h t) : ∃ v, (0 ≤ v ∧ v ≤ 39) ∧ (rd 32 t h = 0 ∨ rd 32 t h = 4 ∨ rd 32 t h = 5 → v ≤ 31) ∧ ∀ d, 6 ≤ d → Ev d 188 (0, fl_enter 5 [rv 31, iv t, iv i], [], h, fl_tot) (some (iv v), h, fl_tot) := by
  have b_k := rda_ok hT 32 6 0 5 rfl (i := t) (by omega) (by omega)
  have b15 : 0 ≤ rd 31 15 h ∧ rd 31 15 h ≤ 600 := rdt_ok hT 31 15
  have hS : 0 ≤ rd 31 42 h ∧ rd 31 42 h ≤ 90000 := ⟨I.2.2.2.2.2.1, by have := I.2.2.2.2.2.2; omega⟩
  have h0 : (rd 32 t h = 4 ∨ rd 32 t h = 5) → i < hasN h t 0 := fun z => by
    unfold szV at hi
    rw [if_neg (by omega), if_neg (by omega)] at hi
    have : sumN 32 (fun k => rd 63 (32 * t + k) h) ≤ hasN h t 0 := sumN_le fun k q1 q2 => by
      show rd 63 (32 * t + k) h ≤ if 0 ≤ k then rd 63 (32 * t + k) h else 0
      rw [if_pos q1]
      exact Int.le_refl _
    omega
  rcases s188 hT b_t b_i (LVs.self (fl_enter 5 [rv 31, iv t, iv i])) with ⟨kind5, kind6, f0, f1, rfl, f3, rfl, f5, T, lv, Hl, K⟩ | ⟨kind5, kind6, kind7, f0, f1, f2, rfl, f4, rfl, f6, rfl, f8, T, lv, Hl, K⟩ | ⟨kind5, kind6, kind7, f0, f1, f2, rfl, f4, rfl, f6, rfl, f8, T, K⟩ | ⟨kind5, f0, rfl, f2, T, lv, Hl, K⟩
  · obtain ⟨v, v0, v1⟩ := c_ko_l hT b_t b_i 33 i 0 lv (by omega) (by omega) b_i (h0 (by omega)) Hl
    exact ⟨v, by omega, fun _ => by omega, fun d hd => K d _ (by omega) (v1 d (by omega))⟩
  · obtain ⟨v, v0, v1⟩ := c_ko_l hT b_t b_i 33 i 0 lv (by omega) (by omega) b_i (h0 (by omega)) Hl
    exact ⟨v, by omega, fun _ => by omega, fun d hd => K d _ (by omega) (v1 d (by omega))⟩
  · exact ⟨i, by omega, fun _ => by omega, fun d hd => K d (by omega)⟩
  · obtain ⟨v, v0, v1⟩ := c_mapKey hT I.2.2.2.2.1 hS b_t (by omega) b_i hi
    have K0 := K
    obtain ⟨T, K⟩ := s188m hT b_t b_i (v := v) v0 Hl
    refine ⟨v, by omega, fun _ => by omega, fun d hd => ?_⟩
    obtain ⟨d, rfl⟩ : ∃ d', d = d' + 1 := ⟨d - 1, by omega⟩
    exact K0 d _ _ _ (by omega) (v1 d (by omega)) (K (d + 1) (by omega))
theorem c_cardOf {h : Hp} (hT : TInv h) (I : RI h) {t i w : Int} (b_t : 0 ≤ t ∧ t ≤ 5) (b_i : 0 ≤ i ∧ i ≤ 39) (b_w : 0 ≤ w ∧ w ≤ 1) (hi : i < szV h t) : ∃ v, (-2147483648 ≤ v ∧ v ≤ 2147483647) ∧ ∀ d, 7 ≤ d → Ev d 187 (0, fl_enter 5 [rv 31, iv t, iv i, iv w], [], h, fl_tot) (some (iv v), h, fl_tot) := by
  have b_k := rda_ok hT 32 6 0 5 rfl (i := t) (by omega) (by omega)
  obtain ⟨T, lv, Hl, K⟩ := s187 hT b_t b_i b_w (LVs.self (fl_enter 5 [rv 31, iv t, iv i, iv w]))
  obtain ⟨v, v0, v1, v2⟩ := c_keyOf hT I b_t b_i hi
  have K0 := K
  have h3 : rd 32 t h = 3 → i ≤ 3 := fun z => by
    unfold szV at hi
    rw [if_pos z] at hi
    omega
  rcases s187b hT b_t b_i b_w (key := v) v0 Hl with ⟨kind7, kind8, n10, n11, row12, f0, f1, f2, f3, f4, f5, f6, rfl, f8, rfl, f10, rfl, rfl, rfl, T, K⟩ | ⟨kind7, kind8, kind9, n11, n12, f0, f1, f2, f3, f4, f5, f6, rfl, f8, rfl, f10, rfl, f12, rfl, rfl, f15⟩ | ⟨kind7, kind8, kind9, n11, n12, value13, f0, f1, f2, f3, f4, f5, f6, f7, rfl, f9, rfl, f11, rfl, f13, rfl, rfl, rfl, T, K⟩ | ⟨kind7, kind8, kind9, n11, n12, row13, f0, f1, f2, f3, f4, f5, f6, f7, rfl, f9, rfl, f11, rfl, f13, rfl, rfl, rfl, T, K⟩ | ⟨kind7, n9, n10, f0, f1, f2, f3, f4, rfl, f6, rfl, rfl, f9⟩ | ⟨kind7, n9, n10, share11, f0, f1, f2, f3, f4, f5, rfl, f7, rfl, rfl, rfl, T, K⟩ | ⟨f0, f1, T, K⟩
  all_goals first | (exfalso; omega) | skip
  all_goals
    refine ⟨_, ?_, fun d hd => by
      obtain ⟨d, rfl⟩ : ∃ d', d = d' + 1 := ⟨d - 1, by omega⟩
      exact K0 d _ _ _ (by omega) (v2 d (by omega)) (K (d + 1) (by omega))⟩
    first | omega | exact rd_int _ _ _
theorem c_card {h : Hp} (hT : TInv h) (G : RG h) {tr i w : Int} (b_tr : -2147483648 ≤ tr ∧ tr ≤ 2147483647) (b_i : -2147483648 ≤ i ∧ i ≤ 2147483647) (b_w : -2147483648 ≤ w ∧ w ≤ 2147483647) : PubOut h 186 4 [rv 31, iv tr, iv i, iv w] := by
  have b0 : 0 ≤ rd 31 0 h ∧ rd 31 0 h ≤ 6 := rdt_ok hT 31 0
  have b13 : 0 ≤ rd 31 13 h ∧ rd 31 13 h ≤ 1 := rdt_ok hT 31 13
  rcases s186 hT b_tr b_i b_w (LVs.self (fl_enter 4 [rv 31, iv tr, iv i, iv w])) with ⟨trays5, f0, f1, rfl, f3, f4, T, K⟩ | ⟨trays5, f0, f1, rfl, f3, f4, f5, T, K⟩ | ⟨trays5, f0, f1, f2, rfl, f4, f5, f6, f7, f8, T, K⟩ | ⟨trays5, f0, f1, f2, rfl, f4, f5, f6, f7, f8, f9, T, K⟩ | ⟨trays5, isRun6, f0, f1, f2, f3, rfl, f5, f6, f7, f8, f9, f10, rfl, f12, T, lv, Hl, K⟩ | ⟨trays5, isRun6, f0, f1, f2, f3, rfl, f5, f6, f7, f8, f9, f10, rfl, f12, T, K⟩
  · exact pub K (by omega) T G
  · exact pub K (by omega) T G
  · exact pub K (by omega) T G
  · exact pub K (by omega) T G
  · have I := G.2 (by omega)
    have z := c_sizeOf hT (t := tr) (by omega)
    have zb := szV_bd hT (t := tr) (by omega)
    have K0 := K
    rcases s186b hT (tr := tr) (by omega) b_i (w := w) (by omega) (v := szV h tr) zb (z := 0) (by omega) (i2 := i) b_i Hl with ⟨f0, f1, f2, T, K⟩ | ⟨f0, f1, f2, f3, T, K⟩ | ⟨f0, f1, f2, f3, f4, T, lv, Hl, K⟩
    · refine pub (D := 8) (v := some (iv (-1))) (fun d hd => ?_) (by omega) T G
      obtain ⟨d, rfl⟩ : ∃ d', d = d' + 1 := ⟨d - 1, by omega⟩
      exact K0 d _ _ _ (by omega) (z d (by omega)) (K (d + 1) (by omega))
    · refine pub (D := 8) (v := some (iv (-1))) (fun d hd => ?_) (by omega) T G
      obtain ⟨d, rfl⟩ : ∃ d', d = d' + 1 := ⟨d - 1, by omega⟩
      exact K0 d _ _ _ (by omega) (z d (by omega)) (K (d + 1) (by omega))
    · obtain ⟨v, v0, v1⟩ := c_cardOf hT I (t := tr) (i := i) (w := w) (by omega) (by omega) (by omega) (by omega)
      have K1 := K
      obtain ⟨g1, rfl, T, K⟩ := s186c hT (tr := tr) (by omega) (i := i) (by omega) (w := w) (by omega) (v := v) v0 Hl
      refine pub (D := 9) (v := some (iv 1)) (fun d hd => ?_) (by omega) T (G.fr ((Fq.refl (Ks := []) (fs := [56]) h).putf 56 v rfl) rfl)
      obtain ⟨d, rfl⟩ : ∃ d', d = d' + 1 := ⟨d - 1, by omega⟩
      exact K0 d _ _ _ (by omega) (z d (by omega)) (K1 d _ _ _ (by omega) (v1 d (by omega)) (K (d + 1) (by omega)))
  · exact pub K (by omega) T G
