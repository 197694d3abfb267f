set_option maxRecDepth 20000
/-! WHAT A RUN KEEPS -/
theorem stF_0 {k op a f c : Int} (hop : k = 1 → 0 ≤ op ∧ op ≤ 1) (ha : k = 0 → 0 ≤ a ∧ a ≤ 31) (hc : 0 ≤ c ∧ c ≤ 4) : stF k op a f c 0 ≠ 0 := by
  unfold stF stA stO
  by_cases h0 : k = 0
  · have := ha h0
    repeat' split
    all_goals omega
  · by_cases h1 : k = 1
    · have := hop h1
      repeat' split
      all_goals omega
    · repeat' split
      all_goals omega
theorem stF_9 {k op a f c i : Int} (h : stF k op a f c i ≠ 0) : i ≤ 8 := by
  by_cases hi : i ≤ 8
  · exact hi
  · exfalso
    apply h
    have hO : stO f i = i := by unfold stO; rw [if_neg (by omega)]
    have hA : stA f i = i := by unfold stA; rw [if_neg (by omega)]
    unfold stF
    rw [hO, hA]
    repeat' split
    all_goals omega
theorem stF_w {k op a f c i : Int} (hop : k = 1 → 0 ≤ op ∧ op ≤ 1) (hk : k = 1 ∨ k = 2) (h0 : 0 ≤ i) (h : stF k op a f c i = 2) : (i = 2 ∧ f ≠ 2) ∨ (i = 3 ∧ f = 2 ∧ stF k op a f c 4 = 0) := by
  have e4 : f = 2 → stF k op a f c 4 = 0 := fun z => by
    have hA : stA f 4 = 4 := by unfold stA; rw [if_neg (by omega)]
    unfold stF
    rw [hA]
    repeat' split
    all_goals omega
  by_cases hf : f = 2
  · refine Or.inr ⟨?_, hf, e4 hf⟩
    revert h
    unfold stF stA
    repeat' split
    all_goals omega
  · refine Or.inl ⟨?_, hf⟩
    have hA : stA f i = i := by unfold stA; rw [if_neg (by omega)]
    revert h
    unfold stF
    rw [hA]
    repeat' split
    all_goals omega
theorem stF_3 {k op a f c : Int} (hop : k = 1 → 0 ≤ op ∧ op ≤ 1) (hk : k = 1 ∨ k = 2) (hf : f ≠ 2) : 200 ≤ stF k op a f c 3 ∧ stF k op a f c 4 = 0 := by
  have hA : stA f 3 = 3 := by unfold stA; rw [if_neg (by omega)]
  have hB : stA f 4 = 4 := by unfold stA; rw [if_neg (by omega)]
  unfold stF
  rw [hA, hB]
  constructor
  · rcases hk with rfl | rfl
    · have := hop rfl
      repeat' split
      all_goals omega
    · repeat' split
      all_goals omega
  · repeat' split
    all_goals omega
def SV (h : Hp) : Prop := ∀ c j, 0 ≤ c → c < rd 31 4 h → 0 ≤ j → j < rd 35 c h → actOK h (8 * c + j) ∧ rd 36 (8 * c + j) h < rd 31 0 h
def bOf (h : Hp) (c : Int) : Int := if rd 51 c h < rd 35 c h ∧ rd 49 (8 * c + rd 51 c h) h ≠ -1 then 1 else 0
def wOf (h : Hp) (c : Int) : Int := if rd 51 c h < rd 35 c h ∧ rd 52 c h = 3 ∧ (rd 32 (rd 36 (8 * c + rd 51 c h) h) h = 1 ∨ rd 32 (rd 36 (8 * c + rd 51 c h) h) h = 2) ∧ rd 34 (rd 36 (8 * c + rd 51 c h) h) h ≠ 2 then 1 else 0
def RC1 (h : Hp) (c : Int) : Prop := rd 51 c h ≤ rd 35 c h ∧ (rd 51 c h < rd 35 c h → 0 ≤ rd 52 c h ∧ rd 52 c h ≤ 8 ∧ (rd 53 c h ≠ 0 → rd 52 c h = 0) ∧ stS h (8 * c + rd 51 c h) c (rd 52 c h) ≠ 0) ∧ (rd 53 c h ≠ 0 → rd 51 c h < rd 35 c h ∧ 0 ≤ rd 54 c h ∧ rd 54 c h ≤ 601)
def RC (h : Hp) : Prop := ∀ c, 0 ≤ c → c < rd 31 4 h → RC1 h c
def cntB (h : Hp) (n : Nat) : Int := sumN n (fun m => if rd 44 m h = 0 then 1 else 0)
def actv (h : Hp) (x : Int) : Prop := ∃ c j, 0 ≤ c ∧ c < rd 31 4 h ∧ 0 ≤ j ∧ j < rd 35 c h ∧ x = 8 * c + j
def RM (h : Hp) : Prop := rd 31 16 h ≤ S5 (fun c => 2 * rd 51 c h + bOf h c) ∧ cntB h (rd 31 16 h).toNat ≤ S5 (fun c => rd 51 c h + bOf h c) ∧ ∀ m, 0 ≤ m → m < rd 31 16 h → actv h (rd 43 m h)
def RY (h : Hp) : Prop := ∀ t, 0 ≤ t → t ≤ 5 → rd 69 t h ≤ S5 (fun c => rd 51 c h + wOf h c)
def RI (h : Hp) : Prop := SV h ∧ RC h ∧ RM h ∧ RY h ∧ MP h ∧ 0 ≤ rd 31 42 h ∧ rd 31 42 h ≤ 8 * rd 31 15 h
theorem SV.fr {Ks : List Nat} {fs : List Int} {h h' : Hp} (x : Fq Ks fs h h') (hc : ([32, 35, 36, 37, 38].all (fun K => !Ks.contains K) && (!fs.contains 4 && !fs.contains 0)) = true) (V : SV h) : SV h' := by
  simp only [List.all_cons, List.all_nil, Bool.and_eq_true, Bool.and_true] at hc
  obtain ⟨⟨c1, c2, c3, c4, c5⟩, c6, c7⟩ := hc
  intro c j q1 q2 q3 q4
  rw [x.f 4 (by simpa using c6)] at q2
  rw [x.k 35 c (by simpa using c2)] at q4
  have := V c j q1 q2 q3 q4
  unfold actOK at this ⊢
  rw [x.k 36 _ (by simpa using c3), x.k 32 _ (by simpa using c1), x.k 37 _ (by simpa using c4), x.k 38 _ (by simpa using c5), x.f 0 (by simpa using c7)]
  exact this
theorem actv.fr {Ks : List Nat} {fs : List Int} {h h' : Hp} (x : Fq Ks fs h h') (hc : (!Ks.contains 35 && !fs.contains 4) = true) {y : Int} (A : actv h y) : actv h' y := by
  simp only [Bool.and_eq_true] at hc
  obtain ⟨c, j, a1, a2, a3, a4, a5⟩ := A
  exact ⟨c, j, a1, by rw [x.f 4 (by simpa using hc.2)]; exact a2, a3, by rw [x.k 35 c (by simpa using hc.1)]; exact a4, a5⟩
theorem bOf_bd (h : Hp) (c : Int) : 0 ≤ bOf h c ∧ bOf h c ≤ 1 ∧ (bOf h c = 1 → rd 51 c h < rd 35 c h) := by
  unfold bOf
  split
  · rename_i z; exact ⟨by omega, by omega, fun _ => z.1⟩
  · exact ⟨by omega, by omega, fun z => by omega⟩
theorem wOf_bd (h : Hp) (c : Int) : 0 ≤ wOf h c ∧ wOf h c ≤ 1 ∧ (wOf h c = 1 → rd 51 c h < rd 35 c h) := by
  unfold wOf
  split
  · rename_i z; exact ⟨by omega, by omega, fun _ => z.1⟩
  · exact ⟨by omega, by omega, fun z => by omega⟩
/-- the bounds that a step wants -/
theorem RI.pre {h : Hp} (hT : TInv h) (I : RI h) {c : Int} (h0 : 0 ≤ c) (h1 : c < rd 31 4 h) (h2 : rd 51 c h < rd 35 c h) :
    rd 51 c h ≤ 7 ∧ rd 31 16 h ≤ 79 ∧ (rd 49 (8 * c + rd 51 c h) h = -1 → rd 31 16 h ≤ 78) ∧ actOK h (8 * c + rd 51 c h) ∧ (∀ i, 0 ≤ i → i < rd 31 4 h → rd 53 i h = 1 → rd 51 i h ≤ 7) ∧
    (stS h (8 * c + rd 51 c h) c (rd 52 c h) = 2 → rd 53 c h = 0 → rd 32 (rd 36 (8 * c + rd 51 c h) h) h = 1 ∧ rd 37 (8 * c + rd 51 c h) h = 0 ∨ rd 32 (rd 36 (8 * c + rd 51 c h) h) h = 2 ∧ rd 37 (8 * c + rd 51 c h) h < 2 → rd 69 (rd 36 (8 * c + rd 51 c h) h) h ≤ 39) := by
  obtain ⟨V, C, ⟨m1, m2, m3⟩, Y, M, s1, s2⟩ := I
  have b4 : 0 ≤ rd 31 4 h ∧ rd 31 4 h ≤ 5 := rdt_ok hT 31 4
  have ba : ∀ i, 0 ≤ i → i ≤ 4 → rd 35 i h ≤ 8 := fun i q1 q2 => (rda_ok hT 35 5 0 8 rfl (i := i) q1 (by omega)).2
  have bn : ∀ i, 0 ≤ i → i ≤ 4 → 0 ≤ rd 51 i h ∧ rd 51 i h ≤ 8 := fun i q1 q2 => rda_ok hT 51 5 0 8 rfl (i := i) q1 (by omega)
  have hac := ba c h0 (by omega)
  have hbn := bn c h0 (by omega)
  have l1 : ∀ i, 0 ≤ i → i ≤ 4 → 2 * rd 51 i h + bOf h i ≤ 16 := fun i q1 q2 => by
    have := bOf_bd h i
    have := ba i q1 q2
    have := bn i q1 q2
    omega
  have l2 : ∀ i, 0 ≤ i → i ≤ 4 → rd 51 i h + wOf h i ≤ 8 := fun i q1 q2 => by
    have := wOf_bd h i
    have := ba i q1 q2
    have := bn i q1 q2
    omega
  have hact := (V c (rd 51 c h) h0 h1 (by omega) h2).1
  refine ⟨by omega, ?_, fun z => ?_, hact, fun i q1 q2 q3 => ?_, fun z1 z2 z3 => ?_⟩
  · have := S5_le1 (f := fun c => 2 * rd 51 c h + bOf h c) (B := 16) (b := 15) (c := c) (by omega) l1 (by have := bOf_bd h c; omega)
    omega
  · have hb : bOf h c = 0 := by unfold bOf; rw [if_neg (fun w => w.2 z)]
    have := S5_le1 (f := fun c => 2 * rd 51 c h + bOf h c) (B := 16) (b := 14) (c := c) (by omega) l1 (by omega)
    omega
  · have := (C i q1 q2).2.2 (by omega)
    have := ba i q1 (by omega)
    omega
  · have b_op := rda_ok hT 37 40 0 4 rfl (i := 8 * c + rd 51 c h) (by omega) (by omega)
    have bt := rda_ok hT 36 40 0 5 rfl (i := 8 * c + rd 51 c h) (by omega) (by omega)
    have c1 := (C c h0 h1).2.1 h2
    have hx := stF_w (fun q => ⟨b_op.1, hact.1 q⟩) (by omega) c1.1 z1
    have hw : wOf h c = 0 := by
      unfold wOf
      rw [if_neg]
      rintro ⟨-, w1, -, w2⟩
      rcases hx with q | q
      · omega
      · exact w2 q.2.1
    have := S5_le1 (f := fun c => rd 51 c h + wOf h c) (B := 8) (b := 7) (c := c) (by omega) l2 (by omega)
    have := Y _ bt.1 bt.2
    omega
