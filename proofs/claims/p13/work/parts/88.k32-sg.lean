
set_option maxRecDepth 20000
/-! ONE HEAP: what a run wants of it -/
def NUM (h : Hp) : Prop := (∀ c : Nat, c < 5 → h.1 (148 + 12 * c) 0 = Int32.ofNat c ∧ ∀ i : Nat, i < 8 → h.1 (152 + 12 * c + i) 0 = Int32.ofNat c ∧ h.1 (152 + 12 * c + i) 1 = Int32.ofNat i ∧ ∃ s, h.2 (152 + 12 * c + i) 7 = some s) ∧ ∀ j p : Nat, j < 10 → p < stLen j → (h.1 (1000 + j) p).toInt = stC j p
/-- the acts are such as their trays take -/
def OPS (h : Hp) : Prop := ∀ c : Nat, c < qc h → ∀ i : Nat, i < qm h c → qT h c i < qt h ∧ opOK (qK h c i) (qO h c i) ∧ (qK h c i = 0 ∨ qK h c i = 5 ∨ (qK h c i = 4 ∧ qO h c i ≠ 3) → 0 ≤ qA h c i ∧ qA h c i ≤ 31)
theorem qt_i {h : Hp} (hT : TInv h) : qt h ≤ 6 ∧ (h.1 223 0).toInt = qt h ∧ qc h ≤ 5 ∧ (h.1 223 4).toInt = qc h := by
  have a : 0 ≤ rd 31 ((0 : Nat) : Int) h ∧ rd 31 ((0 : Nat) : Int) h ≤ 6 := rdt_ok hT 31 0
  have b : 0 ≤ rd 31 ((4 : Nat) : Int) h ∧ rd 31 ((4 : Nat) : Int) h ≤ 5 := rdt_ok hT 31 4
  rw [xrd (by decide) (by decide)] at a b
  have a : 0 ≤ (h.1 223 0).toInt ∧ (h.1 223 0).toInt ≤ 6 := a
  have b : 0 ≤ (h.1 223 4).toInt ∧ (h.1 223 4).toInt ≤ 5 := b
  have e1 : (qt h : Int) = (h.1 223 0).toInt := by
    show (((h.1 223 0).toInt.toNat : Nat) : Int) = _
    omega
  have e2 : (qc h : Int) = (h.1 223 4).toInt := by
    show (((h.1 223 4).toInt.toNat : Nat) : Int) = _
    omega
  refine ⟨by omega, e1.symm, by omega, e2.symm⟩
theorem GS.of {h : Hp} (hT : TInv h) (O : OPS h) : GS h := by
  have Q := qt_i hT
  refine ⟨Q, fun t ht => ?_, fun c hc => ?_⟩
  · have a := TI.rng hT 32 6 0 5 (by decide +kernel) (by decide) (by decide) (i := t) (by omega)
    have b := TI.rng hT 34 6 0 2 (by decide +kernel) (by decide) (by decide) (i := t) (by omega)
    exact ⟨a.1, a.2, b.1, b.2⟩
  · have a : 0 ≤ (h.1 227 c).toInt ∧ (h.1 227 c).toInt ≤ 8 := TI.rng hT 35 5 0 8 (by decide +kernel) (by decide) (by decide) (i := c) (by omega)
    have e : (qm h c : Int) = (h.1 227 c).toInt := by
      show (((h.1 227 c).toInt.toNat : Nat) : Int) = _
      omega
    refine ⟨e.symm, by omega, fun i hi => ?_⟩
    have b : 0 ≤ (h.1 228 (8 * c + i)).toInt ∧ (h.1 228 (8 * c + i)).toInt ≤ 5 := TI.rng hT 36 40 0 5 (by decide +kernel) (by decide) (by decide) (i := 8 * c + i) (by omega)
    obtain ⟨o1, o2, o3⟩ := O c hc i hi
    exact ⟨o1, (i32_of b.1).symm, o2, o3⟩
theorem SM.self {h : Hp} (S : SH h.2) : SM h h := ⟨S, rfl, rfl, fun _ _ _ _ => rfl⟩
theorem SX.of {h : Hp} (hT : TInv h) (U : SU h) (N : NUM h) (O : OPS h) : SX h h := by
  have Q := qt_i hT
  have G := GS.of hT O
  obtain ⟨U0, ⟨U1, U2⟩, U3, U4, U5⟩ := U
  refine ⟨U0, ⟨U1, U2⟩, fun t ht => ?_, N.1, fun c hc => ?_, N.2⟩
  · obtain ⟨a, b, c, -⟩ := U3 t (by omega) (by rw [U1]; omega)
    exact ⟨a, b, c⟩
  · obtain ⟨a, b⟩ := U5 c (by omega) (by rw [U2]; omega)
    refine ⟨a, fun i hi => ?_⟩
    have m := (G.2.2 c hc).1
    exact b i (by rw [m]; omega) (G.i8 hc hi)
/-- run's two sides, one behind the other, out of one heap: the answers are alike -/
theorem run_law {h h1 : Hp} {d d2 : Nat} {r2 : Option Value × Hp × Nat} (hT : TInv h) (hT1 : TInv h1) (U : SU h) (N : NUM h) (O : OPS h) (C0 : CH h) (V : SV h1) (F : ∀ r : Nat, 223 ≤ r → h1.1 r = h.1 r) (S1 : SH h1.2) (e : Ev d 26 (0, [some (.ref 208), some (.ref 222), none, none, none], [], h, fl_tot) (none, h1, fl_tot)) (e2 : Ev d2 153 (0, [some (.ref 223), none, none], [], h1, fl_tot) r2) : ∃ h2 v st', st' ≤ 600 ∧ r2 = (some (.int v), h2, fl_tot) ∧ RR h h1 h2 st' ∧ RI h2 ∧ CHr h1 h2 ∧ h1.1 208 6 = v ∧ h1.1 208 5 = Int32.ofNat st' ∧ h2.1 223 14 = v ∧ h2.1 223 13 = Int32.ofInt 1 := by
  have G := GS.of hT O
  have Q := qt_i hT
  have M : SM h h1 := ⟨S1, by rw [F 223 (by decide)], by rw [F 223 (by decide)], fun K j h1' h2' => by rw [F K (by omega)]⟩
  obtain ⟨h', hm', v, st', a1, a2, a3, a4, a5, a6, a7, a8, a9, a10, a11⟩ := run_both G (SX.of hT U N O) M hT hT1 V (fun j hj => by rw [F 233 (by decide)]; exact C0 j hj) (fun t ht _ j hj => by
    rw [F 234 (by decide)]
    exact (U.2.2.1 t (by omega) (by rw [U.2.1.1]; omega)).2.2.2 j hj) e e2
  obtain ⟨-, k, -⟩ := tri a2
  subst k
  exact ⟨hm', v, st', a1, a3, a4, a6, a7, a8, a9, a10, a11⟩
