
set_option maxRecDepth 20000
/-! THE CLASS WITHIN A STEP -/
theorem cx {g h : Hp} (G : GS g) (X : SX g h) {c i J p : Nat} (hc : c < qc g) (hi : i < qm g c) (hJ : J < 10) (hp : p < stLen J) (a9 : h.1 (152 + 12 * c + i) 9 = Int32.ofNat p) (a7 : h.2 (152 + 12 * c + i) 7 = some (1000 + J)) : p < 10 ∧ 0 ≤ (h.1 (152 + 12 * c + i) 9).toInt ∧ (h.1 (152 + 12 * c + i) 9).toInt < (Int32.ofNat (fl_len h (sfO h c i))).toInt ∧ (h.1 (sfO h c i) (h.1 (152 + 12 * c + i) 9).toNatClampNeg).toInt = stC J p := by
  have l10 : stLen J < 10 := of_decide_eq_true (List.all_eq_true.mp (show ((List.range 10).all fun J => decide (stLen J < 10)) = true by decide +kernel) J (List.mem_range.mpr hJ))
  rw [sfO_eq a7, len_st hJ, a9, i32n (by omega), i32n (by omega), o32c (by omega)]
  exact ⟨by omega, by omega, by omega, X.2.2.2.2.2 J p hJ hp⟩
/-- a monitor of the step at p -/
theorem cmon {g h : Hp} {c i p : Nat} (a8 : h.1 (152 + 12 * c + i) 8 = Int32.ofInt (monI (qK g c i) (qO g c i) (qA g c i) c)) (a9 : h.1 (152 + 12 * c + i) 9 = Int32.ofNat p) (p10 : p < 10) (hM : 0 ≤ qM g c i p ∧ qM g c i p ≤ 3) :
    ((h.1 (152 + 12 * c + i) 8).toInt = -1 → (h.1 (152 + 12 * c + i) 9).toInt ≥ 4 → ((((h.1 (152 + 12 * c + i) 9 - Int32.ofInt 4) - Int32.ofInt 1) &&& Int32.ofInt 3) &&& Int32.ofInt 3).toNatClampNeg = (qM g c i p).toNat) ∧ ((h.1 (152 + 12 * c + i) 8).toInt = -1 → (h.1 (152 + 12 * c + i) 9).toInt < 4 → ((h.1 (152 + 12 * c + i) 9 &&& Int32.ofInt 3) &&& Int32.ofInt 3).toNatClampNeg = (qM g c i p).toNat) ∧ ((h.1 (152 + 12 * c + i) 8).toInt ≠ -1 → (h.1 (152 + 12 * c + i) 8 &&& Int32.ofInt 3).toNatClampNeg = (qM g c i p).toNat) := by
  have B := monB (qK g c i) (qO g c i) (qA g c i) c
  rw [a8, a9, kc (by omega) (by omega), i32n (by omega)]
  unfold qM stM at hM ⊢
  refine ⟨fun z y => ?_, fun z y => ?_, fun z => ?_⟩
  · rw [if_pos z, if_neg (by omega)] at hM ⊢
    rw [mon5 (by omega) (by omega)]
    omega
  · rw [if_pos z, if_pos (by omega)] at hM ⊢
    rw [mon0 (by omega)]
    omega
  · rw [if_neg z] at hM ⊢
    exact i3k hM.1 hM.2
theorem cF {g h : Hp} (G : GS g) (X : SX g h) {c i : Nat} (hc : c < qc g) (hi : i < qm g c) : (h.1 (4 + 24 * qT g c i) 8).toInt = qF g c i ∧ (h.1 (4 + 24 * qT g c i) 6).toInt = qK g c i := by
  obtain ⟨a, -, b⟩ := X.2.2.1 _ (G.T hc hi)
  rw [a, b]
  exact ⟨rfl, rfl⟩
/-! THE REFERENCE WITHIN A STEP -/
def lsM (g : Hp) (c i q : Nat) : List (Option Value) := [some (.ref 223), some (.int (Int32.ofNat c)), some (.int (Int32.ofNat (8 * c + i))), some (.int (Int32.ofInt (qS g c i q))), some (.int (mOf (qT g c i) (qS g c i q))), some (.int (if qF g c i = 1 then Int32.ofInt 1 else Int32.ofInt 0))]
theorem SM.st {g h : Hp} (G : GS g) (M : SM g h) {c i : Nat} (hc : c < qc g) (hi : i < qm g c) : (∀ q : Int, stS h (8 * (c : Int) + i) c q = stF (qK g c i) (qO g c i) (qA g c i) (qF g c i) c q) ∧ h.1 228 (8 * c + i) = Int32.ofNat (qT g c i) ∧ (h.1 224 (qT g c i)).toInt = qK g c i ∧ (h.1 226 (qT g c i)).toInt = qF g c i ∧ h.1 229 (8 * c + i) = g.1 229 (8 * c + i) ∧ h.1 230 (8 * c + i) = g.1 230 (8 * c + i) ∧ h.1 231 (8 * c + i) = g.1 231 (8 * c + i) := by
  obtain ⟨-, -, -, m⟩ := M
  have c5 := G.c5 hc
  have i8 := G.i8 hc hi
  have e28 : h.1 228 (8 * c + i) = Int32.ofNat (qT g c i) := by rw [m _ _ (by decide) (by decide)]; exact G.e28 hc hi
  have T6 := G.T6 hc hi
  refine ⟨fun q => ?_, e28, by rw [m _ _ (by decide) (by decide)]; rfl, by rw [m _ _ (by decide) (by decide)]; rfl, m _ _ (by decide) (by decide), m _ _ (by decide) (by decide), m _ _ (by decide) (by decide)⟩
  have ex : (8 * (c : Int) + i) = ((8 * c + i : Nat) : Int) := by omega
  have eT : rd 36 (8 * (c : Int) + i) h = ((qT g c i : Nat) : Int) := by
    rw [ex, xrd (by decide) (by decide)]
    show (h.1 228 (8 * c + i)).toInt = _
    rw [e28, i32n (by omega)]
  unfold stS
  rw [eT, ex, xrd (by decide) (by decide), xrd (by decide) (by decide), xrd (by decide) (by decide), xrd (by decide) (by decide)]
  show stF (h.1 224 _).toInt (h.1 229 _).toInt (h.1 230 _).toInt (h.1 226 _).toInt c q = _
  rw [m 224 _ (by decide) (by decide), m 229 _ (by decide) (by decide), m 230 _ (by decide) (by decide), m 226 _ (by decide) (by decide)]
  rfl
theorem rv31 : rv 31 = Value.ref 223 := congrArg Value.ref (show xc 31 = 223 by decide +kernel)
/-- stepOf in any heap that has types and the setup -/
theorem z_step {g h : Hp} (G : GS g) (M : SM g h) (hT : TInv h) {c i : Nat} (hc : c < qc g) (hi : i < qm g c) {q : Int} (hq : -1 ≤ q ∧ q ≤ 20) {p : Int32} (ep : p = Int32.ofInt q) {d : Nat} {r : Option Value × Hp × Nat} (e : Ev d 157 (0, [some (.ref 223), some (.int (Int32.ofNat (8 * c + i))), some (.int (Int32.ofNat c)), some (.int p), none, none, none, none, none], [], h, fl_tot) r) : r = (some (.int (Int32.ofInt (stF (qK g c i) (qO g c i) (qA g c i) (qF g c i) c q))), h, fl_tot) := by
  have c5 := G.c5 hc
  have i8 := G.i8 hc hi
  obtain ⟨s1, s2, s3, s4, s5, s6, s7⟩ := SM.st G M hc hi
  have T6 := G.T6 hc hi
  have ex : (8 * (c : Int) + i) = ((8 * c + i : Nat) : Int) := by omega
  have eT : rd 36 (8 * (c : Int) + i) h = ((qT g c i : Nat) : Int) := by
    rw [ex, xrd (by decide) (by decide)]
    show (h.1 228 (8 * c + i)).toInt = _
    rw [s2, i32n (by omega)]
  have K := c_stepOf hT (x := 8 * (c : Int) + i) (c := c) (i := q) (by omega) (by omega) hq (fun z => by
    rw [eT, xrd (by decide) (by decide)] at z
    have z' : qK g c i = 0 := by rw [← s3]; exact z
    have := G.ky hc hi (Or.inl z')
    rw [ex, xrd (by decide) (by decide)]
    show 0 ≤ (h.1 230 (8 * c + i)).toInt ∧ (h.1 230 (8 * c + i)).toInt ≤ 31
    rw [s6]
    exact this) 3 (by decide)
  rw [s1] at K
  have e2 := ev_det e (show Ev 3 157 (0, [some (.ref 223), some (.int (Int32.ofNat (8 * c + i))), some (.int (Int32.ofNat c)), some (.int p), none, none, none, none, none], [], h, fl_tot) _ from by
    rw [rv31, ex] at K
    rw [ep]
    exact K)
  exact e2
