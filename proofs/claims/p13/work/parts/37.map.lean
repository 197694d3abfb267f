/-! THE ROWS OF A MAP -/
theorem rdk {K K' : Nat} {i j v : Int} {h : Hp} (h1 : 31 ≤ K) (h2 : K < 93) (h3 : 31 ≤ K') (h4 : K' < 93) (h5 : K ≠ K') : rd K i (wr K' j v h) = rd K i h := rd_k (by simp only [kne, Bool.and_eq_true, decide_eq_true_eq]; omega) i j v h
def sumN : Nat → (Int → Int) → Int
  | 0, _ => 0
  | n + 1, f => sumN n f + f n
theorem sumN_eq {f g : Int → Int} : ∀ {n : Nat}, (∀ i, 0 ≤ i → i < n → g i = f i) → sumN n g = sumN n f
  | 0, _ => rfl
  | n + 1, h => by
    unfold sumN
    rw [sumN_eq fun i h1 h2 => h i h1 (by omega), h n (by omega) (by omega)]
theorem sumN_upd {f g : Int → Int} {j : Int} : ∀ {n : Nat}, 0 ≤ j → j < n → (∀ i, 0 ≤ i → i < n → i ≠ j → g i = f i) → sumN n g = sumN n f - f j + g j
  | 0, h1, h2, _ => by omega
  | n + 1, h1, h2, h => by
    unfold sumN
    by_cases e : j = n
    · rw [sumN_eq (f := f) fun i h3 h4 => h i h3 (by omega) (by omega), e]
      omega
    · rw [sumN_upd h1 (by omega) fun i h3 h4 h5 => h i h3 (by omega) h5, h n (by omega) (by omega) (fun z => e z.symm)]
      omega
theorem sumN_bd {f : Int → Int} : ∀ {n : Nat}, (∀ i, 0 ≤ i → i < n → 0 ≤ f i ∧ f i ≤ 1) → 0 ≤ sumN n f ∧ sumN n f ≤ n
  | 0, _ => by unfold sumN; omega
  | n + 1, h => by
    unfold sumN
    have := sumN_bd (n := n) fun i h1 h2 => h i h1 (by omega)
    have := h n (by omega) (by omega)
    omega
theorem sumN_ge {f : Int → Int} {j : Int} : ∀ {n : Nat}, (∀ i, 0 ≤ i → i < n → 0 ≤ f i ∧ f i ≤ 1) → 0 ≤ j → j < n → f j ≤ sumN n f
  | 0, _, h1, h2 => by omega
  | n + 1, h, h1, h2 => by
    unfold sumN
    have a := sumN_bd (n := n) fun i h1 h2 => h i h1 (by omega)
    have b := h n (by omega) (by omega)
    by_cases e : j = n
    · rw [e]; omega
    · have := sumN_ge (n := n) (fun i h1 h2 => h i h1 (by omega)) h1 (by omega)
      omega
def cardOK (h : Hp) (t k : Int) : Prop := (rd 66 (32 * t + k) h = 0 → rd 65 (32 * t + k) h < rd 74 (4 * t + k % 4) h) ∧ (rd 66 (32 * t + k) h = 1 → rd 75 (4 * t + k % 4) h = 1 ∧ rd 65 (32 * t + k) h < 2 * rd 74 (4 * t + k % 4) h) ∧ 1 ≤ rd 67 (32 * t + k) h ∧ rd 67 (32 * t + k) h ≤ rd 31 42 h
/-- the rows are in order, but for one card -/
def MPx (h : Hp) (T K0 : Int) : Prop :=
  (∀ s, 0 ≤ s → s < 24 → 1 ≤ rd 74 s h ∧ (rd 75 s h = 1 → rd 74 s h ≤ 3 ∧ rd 76 s h < rd 74 s h)) ∧
  (∀ t k, 0 ≤ t → t ≤ 5 → rd 32 t h = 0 → 0 ≤ k → k < 32 → ¬ (t = T ∧ k = K0) → rd 63 (32 * t + k) h = 1 → cardOK h t k) ∧
  (∀ t k k', 0 ≤ t → t ≤ 5 → rd 32 t h = 0 → 0 ≤ k → k < 32 → 0 ≤ k' → k' < 32 → k ≠ k' → ¬ (t = T ∧ k = K0) → ¬ (t = T ∧ k' = K0) → rd 63 (32 * t + k) h = 1 → rd 63 (32 * t + k') h = 1 → rd 67 (32 * t + k) h ≠ rd 67 (32 * t + k') h)
def MP (h : Hp) : Prop := MPx h (-1) (-1)
theorem MP.x {h : Hp} (M : MP h) (T K0 : Int) : MPx h T K0 := ⟨M.1, fun t k h1 h2 h3 h4 h5 _ => M.2.1 t k h1 h2 h3 h4 h5 (by omega), fun t k k' h1 h2 h3 h4 h5 h6 h7 h8 _ _ => M.2.2 t k k' h1 h2 h3 h4 h5 h6 h7 h8 (by omega) (by omega)⟩
theorem MPx.fr {Ks : List Nat} {fs : List Int} {h h' : Hp} {T K0 : Int} (x : Fq Ks fs h h') (hc : ([32, 63, 65, 66, 67, 74, 75, 76].all (fun K => !Ks.contains K) && !fs.contains 42) = true) (M : MPx h T K0) : MPx h' T K0 := by
  simp only [List.all_cons, List.all_nil, Bool.and_eq_true, Bool.and_true] at hc
  obtain ⟨⟨c1, c2, c3, c4, c5, c6, c7, c8⟩, c9⟩ := hc
  have e1 : ∀ i, rd 32 i h' = rd 32 i h := fun i => x.k 32 i (by simpa using c1)
  have e2 : ∀ i, rd 63 i h' = rd 63 i h := fun i => x.k 63 i (by simpa using c2)
  have e3 : ∀ i, rd 65 i h' = rd 65 i h := fun i => x.k 65 i (by simpa using c3)
  have e4 : ∀ i, rd 66 i h' = rd 66 i h := fun i => x.k 66 i (by simpa using c4)
  have e5 : ∀ i, rd 67 i h' = rd 67 i h := fun i => x.k 67 i (by simpa using c5)
  have e6 : ∀ i, rd 74 i h' = rd 74 i h := fun i => x.k 74 i (by simpa using c6)
  have e7 : ∀ i, rd 75 i h' = rd 75 i h := fun i => x.k 75 i (by simpa using c7)
  have e8 : ∀ i, rd 76 i h' = rd 76 i h := fun i => x.k 76 i (by simpa using c8)
  have e9 : rd 31 42 h' = rd 31 42 h := x.f 42 (by simpa using c9)
  unfold MPx cardOK
  simp only [e1, e2, e3, e4, e5, e6, e7, e8, e9]
  exact M
/-- a card goes to the head of a row -/
theorem MPx.head {h : Hp} {t k fr ro : Int} (M : MPx h t k) (ht : 0 ≤ t ∧ t ≤ 5) (hk : 0 ≤ k ∧ k < 32) (hS : 0 ≤ rd 31 42 h ∧ rd 31 42 h ≤ 99999) (hf : 0 ≤ fr ∧ fr ≤ 1) (hr : 0 ≤ ro ∧ ro ≤ 7) (h0 : fr = 0 → ro < rd 74 (4 * t + k % 4) h) (h1 : fr = 1 → rd 75 (4 * t + k % 4) h = 1 ∧ ro < 2 * rd 74 (4 * t + k % 4) h) :
    MP (wr 65 (32 * t + k) ro (wr 66 (32 * t + k) fr (wr 67 (32 * t + k) (rd 31 42 h + 1) (wr 31 42 (rd 31 42 h + 1) h)))) := by
  obtain ⟨m1, m2, m3⟩ := M
  refine ⟨fun s q1 q2 => ?_, fun t' k' q1 q2 q3 q4 q5 _ q6 => ?_, fun t' k' k2 q1 q2 q3 q4 q5 q6 q7 q8 _ _ q9 q10 => ?_⟩
  · have := m1 s q1 q2
    simp (disch := omega) only [rdk]
    exact this
  · simp (disch := omega) only [rdk] at q3 q6
    unfold cardOK
    simp (disch := omega) only [rdk, rd_wr]
    by_cases e : t' = t ∧ k' = k
    · obtain ⟨rfl, rfl⟩ := e
      simp only [if_true]
      exact ⟨h0, h1, by omega, by omega⟩
    · have := m2 t' k' q1 q2 q3 q4 q5 e q6
      rw [if_neg (by omega), if_neg (by omega), if_neg (by omega)]
      unfold cardOK at this
      refine ⟨this.1, this.2.1, this.2.2.1, by simp only [if_true]; omega⟩
  · simp (disch := omega) only [rdk] at q3 q9 q10
    simp (disch := omega) only [rdk, rd_wr]
    by_cases e : t' = t ∧ k' = k
    · have hx := m2 t' k2 q1 q2 q3 q6 q7 (by omega) q10
      unfold cardOK at hx
      rw [if_pos (by omega), if_neg (by omega)]
      omega
    · by_cases e2 : t' = t ∧ k2 = k
      · have hx := m2 t' k' q1 q2 q3 q4 q5 (by omega) q9
        unfold cardOK at hx
        rw [if_neg (by omega), if_pos (by omega)]
        omega
      · rw [if_neg (by omega), if_neg (by omega)]
        exact m3 t' k' k2 q1 q2 q3 q4 q5 q6 q7 q8 e e2 q9 q10
/-- how many cards of a stripe are not yet moved -/
def cOld (h : Hp) (t s : Int) : Int := sumN 8 (fun j => if rd 63 (32 * t + s + 4 * j) h = 1 ∧ rd 66 (32 * t + s + 4 * j) h = 0 then 1 else 0)
theorem cOld_bd (h : Hp) (t s : Int) : 0 ≤ cOld h t s ∧ cOld h t s ≤ 8 := by
  have := sumN_bd (n := 8) (f := fun j => if rd 63 (32 * t + s + 4 * j) h = 1 ∧ rd 66 (32 * t + s + 4 * j) h = 0 then 1 else 0) (fun i _ _ => by split <;> omega)
  unfold cOld
  omega
