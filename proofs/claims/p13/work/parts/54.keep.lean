set_option maxRecDepth 20000
theorem S5_def (f : Int → Int) : S5 f = f 0 + f 1 + f 2 + f 3 + f 4 := rfl
theorem RC1.fr {Ks : List Nat} {fs : List Int} {h h' : Hp} (x : Fq Ks fs h h') (hc : ([32, 34, 35, 36, 37, 38, 51, 52, 53, 54].all (fun K => !Ks.contains K)) = true) {c : Int} (C : RC1 h c) : RC1 h' c := by
  have hc2 : ([32, 34, 36, 37, 38].all (fun K => !Ks.contains K)) = true := by
    simp only [List.all_cons, List.all_nil, Bool.and_eq_true, Bool.and_true] at hc ⊢
    obtain ⟨c1, c2, c3, c4, c5, c6, -⟩ := hc
    exact ⟨c1, c2, c4, c5, c6⟩
  simp only [List.all_cons, List.all_nil, Bool.and_eq_true, Bool.and_true] at hc
  obtain ⟨-, -, c3, -, -, -, c7, c8, c9, c10⟩ := hc
  unfold RC1
  rw [x.k 51 c (by simpa using c7), x.k 35 c (by simpa using c3), x.k 52 c (by simpa using c8), x.k 53 c (by simpa using c9), x.k 54 c (by simpa using c10), stS_fr x hc2]
  exact C
theorem wOf_fr {Ks : List Nat} {fs : List Int} {h h' : Hp} (x : Fq Ks fs h h') (hc : ([32, 34, 35, 36, 51].all (fun K => !Ks.contains K)) = true) {c : Int} (e : rd 52 c h' = rd 52 c h) : wOf h' c = wOf h c := by
  simp only [List.all_cons, List.all_nil, Bool.and_eq_true, Bool.and_true] at hc
  obtain ⟨c1, c2, c3, c4, c5⟩ := hc
  unfold wOf
  rw [x.k 51 c (by simpa using c5), x.k 35 c (by simpa using c3), e, x.k 36 _ (by simpa using c4), x.k 32 _ (by simpa using c1), x.k 34 _ (by simpa using c2)]
theorem bOf_fr {Ks : List Nat} {fs : List Int} {h h' : Hp} (x : Fq Ks fs h h') (hc : ([35, 49, 51].all (fun K => !Ks.contains K)) = true) {c : Int} : bOf h' c = bOf h c := by
  simp only [List.all_cons, List.all_nil, Bool.and_eq_true, Bool.and_true] at hc
  obtain ⟨c1, c2, c3⟩ := hc
  unfold bOf
  rw [x.k 51 c (by simpa using c3), x.k 35 c (by simpa using c1), x.k 49 _ (by simpa using c2)]
theorem cntB_eq {h h' : Hp} {n : Nat} (e : ∀ i : Int, 0 ≤ i → i < n → rd 44 i h' = rd 44 i h) : cntB h' n = cntB h n := by
  unfold cntB
  exact sumN_eq fun i _ h2 => by rw [e i (by omega) (by omega)]
theorem RM.fr {Ks : List Nat} {fs : List Int} {h h' : Hp} (x : Fq Ks fs h h') (hc : ([35, 43, 44, 49, 51].all (fun K => !Ks.contains K) && (!fs.contains 4 && !fs.contains 16)) = true) (M : RM h) : RM h' := by
  have hc1 : ([35, 49, 51].all (fun K => !Ks.contains K)) = true ∧ (!Ks.contains 35 && !fs.contains 4) = true ∧ Ks.contains 43 = false ∧ Ks.contains 44 = false ∧ Ks.contains 51 = false ∧ fs.contains 16 = false := by
    simp only [List.all_cons, List.all_nil, Bool.and_eq_true, Bool.and_true, Bool.not_eq_true'] at hc ⊢
    obtain ⟨⟨c1, c2, c3, c4, c5⟩, c6, c7⟩ := hc
    exact ⟨⟨c1, c4, c5⟩, ⟨c1, c6⟩, c2, c3, c5, c7⟩
  obtain ⟨c1, c2, c3, c4, c5, c6⟩ := hc1
  obtain ⟨m1, m2, m3⟩ := M
  have e16 : rd 31 16 h' = rd 31 16 h := x.f 16 (by simpa using c6)
  have e51 : ∀ i, rd 51 i h' = rd 51 i h := fun i => x.k 51 i (by simpa using c5)
  have eb : ∀ i, bOf h' i = bOf h i := fun i => bOf_fr x c1
  refine ⟨?_, ?_, fun m q1 q2 => ?_⟩
  · simp only [e16, e51, eb]; exact m1
  · rw [e16, cntB_eq (h := h) fun i _ _ => x.k 44 i (by simpa using c4)]
    simp only [e51, eb]; exact m2
  · rw [e16] at q2
    rw [x.k 43 m (by simpa using c3)]
    exact (m3 m q1 q2).fr x c2
theorem RI.begin {h h1 : Hp} (hT : TInv h) (I : RI h) {c : Int} (h0 : 0 ≤ c) (hc : c < rd 31 4 h) (hn : rd 51 c h < rd 35 c h) (B : BgP h c h1) : RI h1 ∧ bOf h1 c = 1 := by
  have b4 : 0 ≤ rd 31 4 h ∧ rd 31 4 h ≤ 5 := rdt_ok hT 31 4
  have ba : ∀ i, 0 ≤ i → i ≤ 4 → rd 35 i h ≤ 8 := fun i q1 q2 => (rda_ok hT 35 5 0 8 rfl (i := i) q1 (by omega)).2
  have bn : ∀ i, 0 ≤ i → i ≤ 4 → 0 ≤ rd 51 i h ∧ rd 51 i h ≤ 8 := fun i q1 q2 => rda_ok hT 51 5 0 8 rfl (i := i) q1 (by omega)
  have bm : 0 ≤ rd 31 16 h ∧ rd 31 16 h ≤ 80 := rdt_ok hT 31 16
  have hac := ba c h0 (by omega)
  have hbn := bn c h0 (by omega)
  rcases B with ⟨B1, B2⟩ | ⟨B1, F, u49, e16, u43, u44⟩
  · subst B2
    exact ⟨I, by unfold bOf; rw [if_pos ⟨hn, B1⟩]⟩
  · obtain ⟨V, C, ⟨m1, m2, m3⟩, Y, M, s1, s2⟩ := I
    have e51 : ∀ i, rd 51 i h1 = rd 51 i h := fun i => F.k 51 i rfl
    have e35 : ∀ i, rd 35 i h1 = rd 35 i h := fun i => F.k 35 i rfl
    have eb : ∀ i, 0 ≤ i → i ≤ 4 → i ≠ c → bOf h1 i = bOf h i := fun i q1 q2 q3 => by
      have := ba i q1 q2
      have := bn i q1 q2
      unfold bOf
      rw [e51, e35]
      by_cases z : rd 51 i h < rd 35 i h
      · rw [u49 _ (by omega), if_neg (show ¬ 8 * i + rd 51 i h = 8 * c + rd 51 c h by omega)]
      · rw [if_neg (fun w => z w.1), if_neg (fun w => z w.1)]
    have eb1 : bOf h1 c = 1 := by
      unfold bOf
      rw [e51, e35, if_pos]
      refine ⟨hn, ?_⟩
      rw [u49 _ (by omega), if_pos rfl]
      omega
    have eb0 : bOf h c = 0 := by
      unfold bOf
      rw [if_neg (fun w => w.2 B1)]
    have sb : S5 (fun i => bOf h1 i) = S5 (fun i => bOf h i) + 1 := by
      rw [S5_def, S5_def]
      have : c = 0 ∨ c = 1 ∨ c = 2 ∨ c = 3 ∨ c = 4 := by omega
      rcases this with rfl | rfl | rfl | rfl | rfl
      · rw [eb 1 (by omega) (by omega) (by omega), eb 2 (by omega) (by omega) (by omega), eb 3 (by omega) (by omega) (by omega), eb 4 (by omega) (by omega) (by omega)]; omega
      · rw [eb 0 (by omega) (by omega) (by omega), eb 2 (by omega) (by omega) (by omega), eb 3 (by omega) (by omega) (by omega), eb 4 (by omega) (by omega) (by omega)]; omega
      · rw [eb 0 (by omega) (by omega) (by omega), eb 1 (by omega) (by omega) (by omega), eb 3 (by omega) (by omega) (by omega), eb 4 (by omega) (by omega) (by omega)]; omega
      · rw [eb 0 (by omega) (by omega) (by omega), eb 1 (by omega) (by omega) (by omega), eb 2 (by omega) (by omega) (by omega), eb 4 (by omega) (by omega) (by omega)]; omega
      · rw [eb 0 (by omega) (by omega) (by omega), eb 1 (by omega) (by omega) (by omega), eb 2 (by omega) (by omega) (by omega), eb 3 (by omega) (by omega) (by omega)]; omega
    refine ⟨⟨V.fr F rfl, fun i q1 q2 => ?_, ⟨?_, ?_, fun m q1 q2 => ?_⟩, fun t q1 q2 => ?_, M.fr F rfl, by rw [F.f 42 rfl]; exact s1, by rw [F.f 42 rfl, F.f 15 rfl]; exact s2⟩, eb1⟩
    · rw [F.f 4 rfl] at q2
      exact (C i q1 q2).fr F rfl
    · rw [S5_def] at m1 ⊢
      rw [S5_def, S5_def] at sb
      rw [e16, e51, e51, e51, e51, e51]
      omega
    · have hl : (rd 31 16 h1).toNat = (rd 31 16 h).toNat + 1 := by omega
      rw [hl]
      have : cntB h1 ((rd 31 16 h).toNat + 1) = cntB h (rd 31 16 h).toNat + 1 := by
        rw [← cntB_eq (h := h) (h' := h1) (n := (rd 31 16 h).toNat) fun i w1 w2 => by rw [u44 i w1, if_neg (by omega)]]
        show sumN _ _ + (if rd 44 (((rd 31 16 h).toNat : Nat) : Int) h1 = 0 then 1 else 0) = _
        rw [u44 _ (by omega), if_pos (show ((((rd 31 16 h).toNat : Nat) : Int) = rd 31 16 h) by omega)]
        rfl
      rw [this]
      rw [S5_def] at m2 ⊢
      rw [S5_def, S5_def] at sb
      rw [e51, e51, e51, e51, e51]
      omega
    · rw [u43 m q1]
      split
      · exact ⟨c, rd 51 c h, h0, by rw [F.f 4 rfl]; exact hc, by omega, by rw [e35]; exact hn, rfl⟩
      · exact (m3 m q1 (by omega)).fr F rfl
    · rw [F.k 69 t rfl]
      have ew : ∀ i, wOf h1 i = wOf h i := fun i => wOf_fr F rfl (F.k 52 i rfl)
      simp only [e51, ew]
      exact Y t q1 q2
/-- many, but for one clerk -/
def RYc (h : Hp) (c : Int) : Prop := ∀ t, 0 ≤ t → t ≤ 5 → rd 69 t h ≤ S5 (fun i => rd 51 i h + if i = c then 1 else wOf h i)
theorem S5_mono {f g : Int → Int} (h : ∀ i, 0 ≤ i → i ≤ 4 → f i ≤ g i) : S5 f ≤ S5 g := by
  unfold S5
  have := h 0 (by omega) (by omega)
  have := h 1 (by omega) (by omega)
  have := h 2 (by omega) (by omega)
  have := h 3 (by omega) (by omega)
  have := h 4 (by omega) (by omega)
  omega
theorem RY.c {h : Hp} (Y : RY h) (c : Int) : RYc h c := fun t q1 q2 => by
  refine Int.le_trans (Y t q1 q2) (S5_mono fun i _ _ => ?_)
  have := wOf_bd h i
  split <;> omega
/-- plain bounds -/
def BD (h : Hp) : Prop := (0 ≤ rd 31 4 h ∧ rd 31 4 h ≤ 5) ∧ (∀ i, 0 ≤ i → i ≤ 4 → rd 35 i h ≤ 8) ∧ (∀ i, 0 ≤ i → i ≤ 4 → 0 ≤ rd 51 i h ∧ rd 51 i h ≤ 8) ∧ 0 ≤ rd 31 16 h ∧ ∀ x, 0 ≤ x → x ≤ 39 → 0 ≤ rd 37 x h
theorem BD.of {h : Hp} (hT : TInv h) : BD h := ⟨rdt_ok hT 31 4, fun i q1 q2 => (rda_ok hT 35 5 0 8 rfl (i := i) q1 (by omega)).2, fun i q1 q2 => rda_ok hT 51 5 0 8 rfl (i := i) q1 (by omega), (rdt_ok hT 31 16).1, fun x q1 q2 => (rda_ok hT 37 40 0 4 rfl (i := x) q1 (by omega)).1⟩
theorem BD.fr {Ks : List Nat} {fs : List Int} {h h' : Hp} (x : Fq Ks fs h h') (hc : ([35, 37, 51].all (fun K => !Ks.contains K) && !fs.contains 4) = true) (B : BD h) (hm : 0 ≤ rd 31 16 h') : BD h' := by
  simp only [List.all_cons, List.all_nil, Bool.and_eq_true, Bool.and_true] at hc
  obtain ⟨⟨c1, c2, c3⟩, c4⟩ := hc
  unfold BD
  rw [x.f 4 (by simpa using c4)]
  refine ⟨B.1, fun i q1 q2 => ?_, fun i q1 q2 => ?_, hm, fun y q1 q2 => ?_⟩
  · rw [x.k 35 i (by simpa using c1)]; exact B.2.1 i q1 q2
  · rw [x.k 51 i (by simpa using c3)]; exact B.2.2.1 i q1 q2
  · rw [x.k 37 y (by simpa using c2)]; exact B.2.2.2.2 y q1 q2
/-- an act is over -/
theorem RI.over {h h2 : Hp} (hB : BD h) (V : SV h) {c : Int} (C : ∀ i, 0 ≤ i → i < rd 31 4 h → i ≠ c → RC1 h i) (R : RM h) (Y : RYc h c) (M : MP h) (s1 : 0 ≤ rd 31 42 h) (h0 : 0 ≤ c) (hc : c < rd 31 4 h) (hn : rd 51 c h < rd 35 c h) (hb : bOf h c = 1) (O : OvP h c (8 * c + rd 51 c h) h2) :
    SV h2 ∧ RC h2 ∧ RM h2 ∧ RY h2 ∧ MP h2 ∧ rd 31 42 h2 = rd 31 42 h ∧ rd 31 15 h2 = rd 31 15 h := by
  obtain ⟨F, u51, u52, u53, u59, e16, u43, u44⟩ := O
  obtain ⟨m1, m2, m3⟩ := R
  obtain ⟨b4, ba, bn, bm, bo⟩ := hB
  have hac := ba c h0 (by omega)
  have hbn := bn c h0 (by omega)
  have e51 : ∀ i, 0 ≤ i → i ≠ c → rd 51 i h2 = rd 51 i h := fun i q1 q2 => by rw [u51 i q1, if_neg q2]
  have e52 : ∀ i, 0 ≤ i → i ≠ c → rd 52 i h2 = rd 52 i h := fun i q1 q2 => by rw [u52 i q1, if_neg q2]
  have e53 : ∀ i, 0 ≤ i → i ≠ c → rd 53 i h2 = rd 53 i h := fun i q1 q2 => by rw [u53 i q1, if_neg q2]
  have c51 : rd 51 c h2 = rd 51 c h + 1 := by rw [u51 c h0, if_pos rfl]
  have c52 : rd 52 c h2 = 0 := by rw [u52 c h0, if_pos rfl]
  have c53 : rd 53 c h2 = 0 := by rw [u53 c h0, if_pos rfl]
  have e35 : ∀ i, rd 35 i h2 = rd 35 i h := fun i => F.k 35 i rfl
  have eb : ∀ i, 0 ≤ i → i ≠ c → bOf h2 i = bOf h i := fun i q1 q2 => by
    unfold bOf
    rw [e51 i q1 q2, e35, F.k 49 _ rfl]
  have ew : ∀ i, 0 ≤ i → i ≠ c → wOf h2 i = wOf h i := fun i q1 q2 => by
    unfold wOf
    rw [e51 i q1 q2, e35, e52 i q1 q2, F.k 36 _ rfl, F.k 32 _ rfl, F.k 34 _ rfl]
  have hb2 := bOf_bd h2 c
  have hw2 := wOf_bd h2 c
  refine ⟨V.fr F rfl, fun i q1 q2 => ?_, ⟨?_, ?_, fun m q1 q2 => ?_⟩, fun t q1 q2 => ?_, M.fr F rfl, F.f 42 rfl, F.f 15 rfl⟩
  · rw [F.f 4 rfl] at q2
    by_cases e : i = c
    · subst e
      unfold RC1
      rw [c51, c52, c53, e35]
      refine ⟨by omega, fun z => ⟨by omega, by omega, fun w => absurd rfl w, ?_⟩, fun w => absurd rfl w⟩
      rw [stS_fr F rfl]
      have hact := (V i (rd 51 i h + 1) h0 hc (by omega) z).1
      have b_op := bo (8 * i + (rd 51 i h + 1)) (by omega) (by omega)
      exact stF_0 (fun q => ⟨b_op, hact.1 q⟩) (fun q => hact.2 (Or.inl q)) (by omega)
    · have := C i q1 q2 e
      unfold RC1 at this ⊢
      rw [e51 i q1 e, e52 i q1 e, e53 i q1 e, e35, F.k 54 i rfl, stS_fr F rfl]
      exact this
  · rw [e16]
    have := S5_upd (f := fun i => 2 * rd 51 i h + bOf h i) (g := fun i => 2 * (if i = c then rd 51 c h + 1 else rd 51 i h) + (if i = c then bOf h2 c else bOf h i)) (c := c) (by omega) (fun i q => by simp only [if_neg q])
    simp only [if_true] at this
    have e : S5 (fun i => 2 * rd 51 i h2 + bOf h2 i) = S5 (fun i => 2 * (if i = c then rd 51 c h + 1 else rd 51 i h) + (if i = c then bOf h2 c else bOf h i)) := by
      have ee : ∀ i, 0 ≤ i → 2 * rd 51 i h2 + bOf h2 i = 2 * (if i = c then rd 51 c h + 1 else rd 51 i h) + (if i = c then bOf h2 c else bOf h i) := fun i q1 => by
        by_cases e : i = c
        · subst e; rw [if_pos rfl, if_pos rfl, c51]
        · rw [if_neg e, if_neg e, e51 i q1 e, eb i q1 e]
      rw [S5_def, S5_def, ee 0 (by omega), ee 1 (by omega), ee 2 (by omega), ee 3 (by omega), ee 4 (by omega)]
    rw [e, this]
    omega
  · have hl : (rd 31 16 h2).toNat = (rd 31 16 h).toNat + 1 := by omega
    have h1 : cntB h2 ((rd 31 16 h).toNat + 1) = cntB h (rd 31 16 h).toNat := by
      rw [← cntB_eq (h := h) (h' := h2) (n := (rd 31 16 h).toNat) fun i w1 w2 => by rw [u44 i w1, if_neg (by omega)]]
      show sumN _ _ + (if rd 44 (((rd 31 16 h).toNat : Nat) : Int) h2 = 0 then 1 else 0) = _
      rw [u44 _ (by omega), if_pos (show ((((rd 31 16 h).toNat : Nat) : Int) = rd 31 16 h) by omega), if_neg (by omega), Int.add_zero]
      rfl
    rw [hl, h1]
    have := S5_upd (f := fun i => rd 51 i h + bOf h i) (g := fun i => (if i = c then rd 51 c h + 1 else rd 51 i h) + (if i = c then bOf h2 c else bOf h i)) (c := c) (by omega) (fun i q => by simp only [if_neg q])
    simp only [if_true] at this
    have e : S5 (fun i => rd 51 i h2 + bOf h2 i) = S5 (fun i => (if i = c then rd 51 c h + 1 else rd 51 i h) + (if i = c then bOf h2 c else bOf h i)) := by
      have ee : ∀ i, 0 ≤ i → rd 51 i h2 + bOf h2 i = (if i = c then rd 51 c h + 1 else rd 51 i h) + (if i = c then bOf h2 c else bOf h i) := fun i q1 => by
        by_cases e : i = c
        · subst e; rw [if_pos rfl, if_pos rfl, c51]
        · rw [if_neg e, if_neg e, e51 i q1 e, eb i q1 e]
      rw [S5_def, S5_def, ee 0 (by omega), ee 1 (by omega), ee 2 (by omega), ee 3 (by omega), ee 4 (by omega)]
    rw [e, this]
    omega
  · rw [u43 m q1]
    split
    · exact ⟨c, rd 51 c h, h0, by rw [F.f 4 rfl]; exact hc, by omega, by rw [e35]; exact hn, rfl⟩
    · exact (m3 m q1 (by omega)).fr F rfl
  · rw [F.k 69 t rfl]
    refine Int.le_trans (Y t q1 q2) (S5_mono fun i w1 w2 => ?_)
    by_cases e : i = c
    · subst e; rw [if_pos rfl, c51]; omega
    · rw [if_neg e, e51 i w1 e, ew i w1 e]; omega
