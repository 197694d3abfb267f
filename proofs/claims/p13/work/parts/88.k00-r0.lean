
set_option maxRecDepth 20000
/-! TYPES THAT STAY, NUMBERS, PLACES -/
def tic (r k : Nat) (lo hi : Int) : Bool := decide (1 ≤ ab_kd r) && (match ab_K[ab_kd r]? with
  | some (code, _, tys) => (match (if code < 20 then tys[k]? else tys[0]?) with
    | some t => decide (t.1 = 1) && decide (t.2.1 = lo) && decide (t.2.2 = hi)
    | none => false)
  | none => false)
theorem TInv.w {h : Hp} (hT : TInv h) {r k : Nat} {lo hi : Int} {v : Int32} (hc : tic r k lo hi = true) (b : lo ≤ v.toInt ∧ v.toInt ≤ hi) : TInv (fl_setI h r k v) := by
  unfold tic at hc
  rw [Bool.and_eq_true, decide_eq_true_eq] at hc
  obtain ⟨c1, c2⟩ := hc
  split at c2
  · rename_i code size tys hK
    split at c2
    · rename_i t ht
      simp only [Bool.and_eq_true, decide_eq_true_eq] at c2
      obtain ⟨⟨c3, c4⟩, c5⟩ := c2
      exact hT.setI c1 hK ht c3 (by rw [c4, c5]; exact b)
    · cases c2
  · cases c2
def tia (r : Nat) : Bool := match ab_K[ab_kd r]? with
  | some (code, _, _) => decide (20 ≤ code)
  | none => false
theorem tic_arr {r k : Nat} {lo hi : Int} (h1 : tia r = true) (h2 : tic r 0 lo hi = true) : tic r k lo hi = true := by
  unfold tia at h1
  unfold tic at h2 ⊢
  generalize ab_K[ab_kd r]? = o at h1 h2 ⊢
  match o, h1, h2 with
  | some (code, size, tys), h1, h2 =>
    have h3 : 20 ≤ code := of_decide_eq_true h1
    simp only at h2 ⊢
    rw [if_neg (by omega)] at h2 ⊢
    exact h2
/-- an array of the reference's -/
theorem TInv.a {h : Hp} (hT : TInv h) (r k : Nat) (lo hi : Int) {v : Int32} (h1 : tia r = true) (h2 : tic r 0 lo hi = true) (b : lo ≤ v.toInt ∧ v.toInt ≤ hi) : TInv (fl_setI h r k v) := hT.w (tic_arr h1 h2) b
theorem TInv.full {h : Hp} (hT : TInv h) (r k : Nat) (v : Int32) (h1 : tia r = true) (h2 : tic r 0 (-2147483648) 2147483647 = true) : TInv (fl_setI h r k v) := hT.a r k _ _ h1 h2 ⟨Int32.le_toInt v, Int32.toInt_le v⟩
theorem TI.rng {h : Hp} (hT : TInv h) (K size : Nat) (lo hi : Int) (hc : rdc K size lo hi = true) (h1 : 31 ≤ K) (h2 : K < 93) {i : Nat} (hi' : i < size) : lo ≤ (h.1 (192 + K) i).toInt ∧ (h.1 (192 + K) i).toInt ≤ hi := by
  have := rda_ok hT K size lo hi hc (i := (i : Int)) (by omega) (by omega)
  rw [xrd h1 h2] at this
  exact this
/-! indices -/
theorem ofN {N a b : Nat} (hN : N ≤ 100) (ha : a ≤ 8) (hb : b ≤ 1000) : Int32.ofInt (N : Int) * Int32.ofNat a + Int32.ofNat b = Int32.ofNat (N * a + b) := by
  have hab : N * a ≤ 100 * 8 := Nat.mul_le_mul hN ha
  apply Int32.toInt_inj.mp
  rw [xNi (B := 0) (by omega) (by omega) (by rw [i32n (by omega)]; omega) (by rw [i32n (by omega)]; omega) (by rw [i32n (by omega)]; omega) (by rw [i32n (by omega)]; omega), i32n (by omega), i32n (by omega), i32n (by omega)]
  simp
theorem o8 {a b : Nat} (ha : a ≤ 8) (hb : b ≤ 1000) : (Int32.ofInt 8) * Int32.ofNat a + Int32.ofNat b = Int32.ofNat (8 * a + b) := ofN (N := 8) (by decide) ha hb
theorem i8n {a b : Nat} (ha : a ≤ 8) (hb : b ≤ 1000) : ((Int32.ofInt 8) * Int32.ofNat a + Int32.ofNat b).toNatClampNeg = 8 * a + b := by rw [o8 ha hb, o32c (by omega)]
theorem i32k {a b : Nat} (ha : a ≤ 8) (hb : b ≤ 1000) : ((Int32.ofInt 32) * Int32.ofNat a + Int32.ofNat b).toNatClampNeg = 32 * a + b := by rw [show Int32.ofInt 32 = Int32.ofInt ((32 : Nat) : Int) from rfl, ofN (N := 32) (by decide) ha hb, o32c (by omega)]
theorem i4 {a b : Nat} (ha : a ≤ 8) (hb : b ≤ 1000) : ((Int32.ofInt 4) * Int32.ofNat a + Int32.ofNat b).toNatClampNeg = 4 * a + b := by rw [show Int32.ofInt 4 = Int32.ofInt ((4 : Nat) : Int) from rfl, ofN (N := 4) (by decide) ha hb, o32c (by omega)]
theorem i48 {a b : Nat} (ha : a ≤ 8) (hb : b ≤ 1000) : ((Int32.ofInt 48) * Int32.ofNat a + Int32.ofNat b).toNatClampNeg = 48 * a + b := by rw [show Int32.ofInt 48 = Int32.ofInt ((48 : Nat) : Int) from rfl, ofN (N := 48) (by decide) ha hb, o32c (by omega)]
theorem i48z {a : Nat} (ha : a < 6) : ((Int32.ofInt 48) * Int32.ofNat a).toNatClampNeg = 48 * a := of_decide_eq_true (List.all_eq_true.mp (show ((List.range 6).all fun a => decide (((Int32.ofInt 48) * Int32.ofNat a).toNatClampNeg = 48 * a)) = true by decide +kernel) a (List.mem_range.mpr ha))
theorem i4z {a : Nat} (ha : a < 6) : ((Int32.ofInt 4) * Int32.ofNat a).toNatClampNeg = 4 * a := of_decide_eq_true (List.all_eq_true.mp (show ((List.range 6).all fun a => decide (((Int32.ofInt 4) * Int32.ofNat a).toNatClampNeg = 4 * a)) = true by decide +kernel) a (List.mem_range.mpr ha))
theorem i4m {t c : Nat} (ht : t < 6) (hc : c < 5) : ((Int32.ofInt 4) * Int32.ofNat t + (Int32.ofNat c - Int32.ofNat c / (Int32.ofInt 4) * (Int32.ofInt 4))).toNatClampNeg = 4 * t + c % 4 := of_decide_eq_true (List.all_eq_true.mp (List.all_eq_true.mp (show ((List.range 6).all fun t => (List.range 5).all fun c => decide (((Int32.ofInt 4) * Int32.ofNat t + (Int32.ofNat c - Int32.ofNat c / (Int32.ofInt 4) * (Int32.ofInt 4))).toNatClampNeg = 4 * t + c % 4)) = true by decide +kernel) t (List.mem_range.mpr ht)) c (List.mem_range.mpr hc))
theorem an31 {k : Nat} (hk : k < 32) : (Int32.ofNat k &&& Int32.ofInt 31).toNatClampNeg = k := of_decide_eq_true (List.all_eq_true.mp (show ((List.range 32).all fun k => decide ((Int32.ofNat k &&& Int32.ofInt 31).toNatClampNeg = k)) = true by decide +kernel) k (List.mem_range.mpr hk))
theorem an3 {k : Nat} (hk : k < 4) : (Int32.ofNat k &&& Int32.ofInt 3).toNatClampNeg = k := of_decide_eq_true (List.all_eq_true.mp (show ((List.range 4).all fun k => decide ((Int32.ofNat k &&& Int32.ofInt 3).toNatClampNeg = k)) = true by decide +kernel) k (List.mem_range.mpr hk))
theorem ofnI (n : Nat) : Int32.ofInt (n : Int) = Int32.ofNat n := rfl
theorem i3k {m : Int} (h0 : 0 ≤ m) (h3 : m ≤ 3) : (Int32.ofInt m &&& Int32.ofInt 3).toNatClampNeg = m.toNat := by
  have e : Int32.ofInt m = Int32.ofNat m.toNat := by rw [← ofnI, Int.toNat_of_nonneg h0]
  rw [e, an3 (by omega)]
theorem i31k {m : Int} (h0 : 0 ≤ m) (h3 : m ≤ 31) : (Int32.ofInt m &&& Int32.ofInt 31).toNatClampNeg = m.toNat := by
  have e : Int32.ofInt m = Int32.ofNat m.toNat := by rw [← ofnI, Int.toNat_of_nonneg h0]
  rw [e, an31 (by omega)]
theorem ownv {c i : Nat} (hc : c < 5) (hi : i < 8) : (Int32.ofInt 1000) * (Int32.ofNat c + Int32.ofInt 1) + Int32.ofNat i = Int32.ofInt (1000 * (c + 1) + i) := of_decide_eq_true (List.all_eq_true.mp (List.all_eq_true.mp (show ((List.range 5).all fun c => (List.range 8).all fun i => decide ((Int32.ofInt 1000) * (Int32.ofNat c + Int32.ofInt 1) + Int32.ofNat i = Int32.ofInt (1000 * (c + 1) + i))) = true by decide +kernel) c (List.mem_range.mpr hc)) i (List.mem_range.mpr hi))
theorem ownm {c i : Nat} (hc : c < 5) (hi : i < 8) : (Int32.ofInt 1000) * (Int32.ofNat (8 * c + i) / Int32.ofInt 8 + Int32.ofInt 1) + (Int32.ofNat (8 * c + i) - Int32.ofNat (8 * c + i) / Int32.ofInt 8 * Int32.ofInt 8) = Int32.ofInt (1000 * (c + 1) + i) := of_decide_eq_true (List.all_eq_true.mp (List.all_eq_true.mp (show ((List.range 5).all fun c => (List.range 8).all fun i => decide ((Int32.ofInt 1000) * (Int32.ofNat (8 * c + i) / Int32.ofInt 8 + Int32.ofInt 1) + (Int32.ofNat (8 * c + i) - Int32.ofNat (8 * c + i) / Int32.ofInt 8 * Int32.ofInt 8) = Int32.ofInt (1000 * (c + 1) + i))) = true by decide +kernel) c (List.mem_range.mpr hc)) i (List.mem_range.mpr hi))
/-- the place of a monitor in the reference's row of owners -/
def mOf (T : Nat) (v : Int) : Int32 := (Int32.ofInt 4) * (Int32.ofNat T) + (Int32.ofInt v - Int32.ofInt v / (Int32.ofInt 100) * (Int32.ofInt 100))
theorem mOf_ix {T m : Nat} (hT : T < 6) (hm : m < 4) : (mOf T (100 + (m : Int))).toNatClampNeg = 4 * T + m ∧ (mOf T (200 + (m : Int))).toNatClampNeg = 4 * T + m := of_decide_eq_true (List.all_eq_true.mp (List.all_eq_true.mp (show ((List.range 6).all fun T => (List.range 4).all fun m => decide ((mOf T (100 + (m : Int))).toNatClampNeg = 4 * T + m ∧ (mOf T (200 + (m : Int))).toNatClampNeg = 4 * T + m)) = true by decide +kernel) T (List.mem_range.mpr hT)) m (List.mem_range.mpr hm))
theorem monB (k op a c : Int) : -1 ≤ monI k op a c ∧ monI k op a c ≤ 3 := by
  unfold monI
  repeat' split
  all_goals omega
theorem mon5 {p : Nat} (h1 : 5 ≤ p) (h2 : p ≤ 8) : (((Int32.ofNat p - Int32.ofInt 4 - Int32.ofInt 1) &&& Int32.ofInt 3) &&& Int32.ofInt 3).toNatClampNeg = p - 5 := by
  have : p = 5 ∨ p = 6 ∨ p = 7 ∨ p = 8 := by omega
  rcases this with rfl | rfl | rfl | rfl <;> decide +kernel
theorem mon0 {p : Nat} (h : p < 4) : ((Int32.ofNat p &&& Int32.ofInt 3) &&& Int32.ofInt 3).toNatClampNeg = p := by
  have : p = 0 ∨ p = 1 ∨ p = 2 ∨ p = 3 := by omega
  rcases this with rfl | rfl | rfl | rfl <;> decide +kernel
/-! THE RUN ON BOTH SIDES: the tables of steps once more -/
def rdP (k op : Int) : Nat := if k = 3 ∧ op = 1 then 5 else if k = 4 ∧ (op = 1 ∨ op = 3) then 1 else 2
def wrP (f : Int) : Nat := if f = 2 then 8 else 7
abbrev t2a (k op f : Int) (p : Nat) : Prop := (0 ≤ stC (stabJ k op f) p ∧ stC (stabJ k op f) p ≤ 6) ∧ (stC (stabJ k op f) p ≠ 2 → stC (stabJ k op f) p ≠ 4 → rdP k op ≠ p + 1)
abbrev t2b (k op f : Int) (p : Nat) : Prop := (stC (stabJ k op f) p = 2 → rdP k op = p + 1 ∧ (k = 0 ∨ k = 1 ∨ k = 3 ∨ k = 4)) ∧ (stC (stabJ k op f) p = 4 → p = 1 ∧ rdP k op = 2 ∧ (k = 2 ∨ k = 5))
abbrev t2c (k op f : Int) (p : Nat) : Prop := (stC (stabJ k op f) p = 5 → p = 2 ∧ k = 5) ∧ (stC (stabJ k op f) p = 6 → p = 4 ∧ k = 5) ∧ (stC (stabJ k op f) p ≠ 6 → k = 5 → p + 1 ≠ 5)
abbrev t2d (k op f : Int) (p : Nat) : Prop := (stC (stabJ k op f) p ≠ 3 → k = 5 → p + 1 ≠ wrP f)
abbrev t2e (k op f : Int) (p : Nat) : Prop := (stC (stabJ k op f) p = 3 → rdP k op ≤ p ∧ (k = 5 → p + 1 = wrP f ∧ 5 ≤ p) ∧ ¬ (k = 3 ∧ op = 1) ∧ ¬ (k = 4 ∧ (op = 1 ∨ op = 3)) ∧ ¬ (k = 0 ∧ op = 1))
def t2z (k op f : Int) (p : Nat) : Bool := decide (1 ≤ stLen (stabJ k op f) ∧ stLen (stabJ k op f) < 10 ∧ stabJ k op f < 9) && (!decide (p < stLen (stabJ k op f)) || (decide (t2a k op f p) && decide (t2b k op f p) && decide (t2c k op f p) && decide (t2d k op f p) && decide (t2e k op f p)))
theorem t2_ok : ((List.range 6).all fun k => (List.range 5).all fun op => !(decide ((op : Int) ≤ opMax k)) || (List.range 3).all fun f => (List.range 10).all fun p => t2z k op f p) = true := by decide +kernel
theorem t2 {k op f : Int} (ho : opOK k op) (hf : 0 ≤ f ∧ f ≤ 2) {p : Nat} (hp : p < 10) : (1 ≤ stLen (stabJ k op f) ∧ stLen (stabJ k op f) < 10 ∧ stabJ k op f < 9) ∧ (p < stLen (stabJ k op f) → t2a k op f p ∧ t2b k op f p ∧ t2c k op f p ∧ t2d k op f p ∧ t2e k op f p) := by
  obtain ⟨h1, h2, h3, h4⟩ := ho
  have b4 : op ≤ 4 := by unfold opMax at h4; repeat' split at h4 <;> omega
  have e1 : ((k.toNat : Nat) : Int) = k := by omega
  have e2 : ((op.toNat : Nat) : Int) = op := by omega
  have e3 : ((f.toNat : Nat) : Int) = f := by omega
  have h := List.all_eq_true.mp (List.all_eq_true.mp t2_ok k.toNat (List.mem_range.mpr (by omega))) op.toNat (List.mem_range.mpr (by omega))
  rw [e1, e2, Bool.or_eq_true] at h
  rcases h with h | h
  · simp only [Bool.not_eq_true', decide_eq_false_iff_not] at h
    exact absurd h4 h
  · have h := List.all_eq_true.mp (List.all_eq_true.mp h f.toNat (List.mem_range.mpr (by omega))) p (List.mem_range.mpr hp)
    rw [e3] at h
    unfold t2z at h
    rw [Bool.and_eq_true, decide_eq_true_eq] at h
    refine ⟨h.1, fun z => ?_⟩
    have h2 := h.2
    rw [Bool.or_eq_true] at h2
    rcases h2 with h2 | h2
    · rw [decide_eq_true z] at h2
      cases h2
    · simp only [Bool.and_eq_true, decide_eq_true_eq] at h2
      exact ⟨h2.1.1.1.1, h2.1.1.1.2, h2.1.1.2, h2.1.2, h2.2⟩
/-! THE SETUP -/
def qt (g : Hp) : Nat := (g.1 223 0).toNatClampNeg
def qc (g : Hp) : Nat := (g.1 223 4).toNatClampNeg
def qm (g : Hp) (c : Nat) : Nat := (g.1 227 c).toNatClampNeg
def qT (g : Hp) (c i : Nat) : Nat := (g.1 228 (8 * c + i)).toNatClampNeg
def qK (g : Hp) (c i : Nat) : Int := (g.1 224 (qT g c i)).toInt
def qO (g : Hp) (c i : Nat) : Int := (g.1 229 (8 * c + i)).toInt
def qA (g : Hp) (c i : Nat) : Int := (g.1 230 (8 * c + i)).toInt
def qF (g : Hp) (c i : Nat) : Int := (g.1 226 (qT g c i)).toInt
def qJ (g : Hp) (c i : Nat) : Nat := stabJ (qK g c i) (qO g c i) (qF g c i)
def qS (g : Hp) (c i p : Nat) : Int := stF (qK g c i) (qO g c i) (qA g c i) (qF g c i) c p
def qM (g : Hp) (c i p : Nat) : Int := stM (qK g c i) (qO g c i) (qA g c i) c p
def qH (g : Hp) (c i p : Nat) (m : Int) : Bool := heldB (qK g c i) (qO g c i) (qA g c i) (qF g c i) c p m
def GS (g : Hp) : Prop := (qt g ≤ 6 ∧ (g.1 223 0).toInt = qt g ∧ qc g ≤ 5 ∧ (g.1 223 4).toInt = qc g) ∧ (∀ t : Nat, t < qt g → 0 ≤ (g.1 224 t).toInt ∧ (g.1 224 t).toInt ≤ 5 ∧ 0 ≤ (g.1 226 t).toInt ∧ (g.1 226 t).toInt ≤ 2) ∧ ∀ c : Nat, c < qc g → (g.1 227 c).toInt = qm g c ∧ qm g c ≤ 8 ∧ ∀ i : Nat, i < qm g c → qT g c i < qt g ∧ g.1 228 (8 * c + i) = Int32.ofNat (qT g c i) ∧ opOK (qK g c i) (qO g c i) ∧ (qK g c i = 0 ∨ qK g c i = 5 ∨ (qK g c i = 4 ∧ qO g c i ≠ 3) → 0 ≤ qA g c i ∧ qA g c i ≤ 31)
/-- the class's heap has the setup -/
def SX (g h : Hp) : Prop := SH h.2 ∧ (h.1 1 2 = g.1 223 0 ∧ h.1 1 3 = g.1 223 4) ∧ (∀ t : Nat, t < qt g → h.1 (4 + 24 * t) 6 = g.1 224 t ∧ h.1 (4 + 24 * t) 7 = g.1 225 t ∧ h.1 (4 + 24 * t) 8 = g.1 226 t) ∧ (∀ c : Nat, c < 5 → h.1 (148 + 12 * c) 0 = Int32.ofNat c ∧ ∀ i : Nat, i < 8 → h.1 (152 + 12 * c + i) 0 = Int32.ofNat c ∧ h.1 (152 + 12 * c + i) 1 = Int32.ofNat i ∧ ∃ s, h.2 (152 + 12 * c + i) 7 = some s) ∧ (∀ c : Nat, c < qc g → h.1 (148 + 12 * c) 3 = g.1 227 c ∧ ∀ i : Nat, i < qm g c → h.1 (152 + 12 * c + i) 2 = g.1 228 (8 * c + i) ∧ h.1 (152 + 12 * c + i) 3 = g.1 229 (8 * c + i) ∧ h.1 (152 + 12 * c + i) 4 = g.1 230 (8 * c + i) ∧ h.1 (152 + 12 * c + i) 5 = g.1 231 (8 * c + i) ∧ h.1 (152 + 12 * c + i) 6 = g.1 232 (8 * c + i)) ∧ ∀ j p : Nat, j < 10 → p < stLen j → (h.1 (1000 + j) p).toInt = stC j p
/-- the reference's heap has it -/
def SM (g h : Hp) : Prop := SH h.2 ∧ h.1 223 0 = g.1 223 0 ∧ h.1 223 4 = g.1 223 4 ∧ ∀ K j : Nat, 224 ≤ K → K ≤ 234 → h.1 K j = g.1 K j
section GSS
variable {g : Hp} {c i : Nat}
theorem GS.c5 (G : GS g) (hc : c < qc g) : c < 5 := by have := G.1.2.2.1; omega
theorem GS.m8 (G : GS g) (hc : c < qc g) : qm g c ≤ 8 := (G.2.2 c hc).2.1
theorem GS.i8 (G : GS g) (hc : c < qc g) (hi : i < qm g c) : i < 8 := by have := G.m8 hc; omega
theorem GS.T (G : GS g) (hc : c < qc g) (hi : i < qm g c) : qT g c i < qt g := ((G.2.2 c hc).2.2 i hi).1
theorem GS.T6 (G : GS g) (hc : c < qc g) (hi : i < qm g c) : qT g c i < 6 := by have := G.T hc hi; have := G.1.1; omega
theorem GS.e28 (G : GS g) (hc : c < qc g) (hi : i < qm g c) : g.1 228 (8 * c + i) = Int32.ofNat (qT g c i) := ((G.2.2 c hc).2.2 i hi).2.1
theorem GS.op (G : GS g) (hc : c < qc g) (hi : i < qm g c) : opOK (qK g c i) (qO g c i) := ((G.2.2 c hc).2.2 i hi).2.2.1
theorem GS.ky (G : GS g) (hc : c < qc g) (hi : i < qm g c) : qK g c i = 0 ∨ qK g c i = 5 ∨ (qK g c i = 4 ∧ qO g c i ≠ 3) → 0 ≤ qA g c i ∧ qA g c i ≤ 31 := ((G.2.2 c hc).2.2 i hi).2.2.2
theorem GS.f (G : GS g) (hc : c < qc g) (hi : i < qm g c) : 0 ≤ qF g c i ∧ qF g c i ≤ 2 := ⟨(G.2.1 _ (G.T hc hi)).2.2.1, (G.2.1 _ (G.T hc hi)).2.2.2⟩
theorem GS.k (G : GS g) (hc : c < qc g) (hi : i < qm g c) : 0 ≤ qK g c i ∧ qK g c i ≤ 5 := ⟨(G.2.1 _ (G.T hc hi)).1, (G.2.1 _ (G.T hc hi)).2.1⟩
theorem GS.cI (G : GS g) (hc : c < qc g) : (0 : Int) ≤ (c : Int) ∧ (c : Int) ≤ 4 := by have := G.c5 hc; omega
theorem GS.len (G : GS g) (hc : c < qc g) (hi : i < qm g c) : 1 ≤ stLen (qJ g c i) ∧ stLen (qJ g c i) < 10 ∧ qJ g c i < 9 := (t2 (G.op hc hi) (G.f hc hi) (p := 0) (by decide)).1
theorem GS.tb (G : GS g) (hc : c < qc g) (hi : i < qm g c) {p : Nat} (hp : p < stLen (qJ g c i)) :
  (0 ≤ stC (qJ g c i) p ∧ stC (qJ g c i) p ≤ 6) ∧ (stC (qJ g c i) p ≠ 2 → stC (qJ g c i) p ≠ 4 → rdP (qK g c i) (qO g c i) ≠ p + 1) ∧
  (stC (qJ g c i) p = 2 → rdP (qK g c i) (qO g c i) = p + 1 ∧ (qK g c i = 0 ∨ qK g c i = 1 ∨ qK g c i = 3 ∨ qK g c i = 4)) ∧ (stC (qJ g c i) p = 4 → p = 1 ∧ rdP (qK g c i) (qO g c i) = 2 ∧ (qK g c i = 2 ∨ qK g c i = 5)) ∧
  (stC (qJ g c i) p = 5 → p = 2 ∧ qK g c i = 5) ∧ (stC (qJ g c i) p = 6 → p = 4 ∧ qK g c i = 5) ∧ (stC (qJ g c i) p ≠ 6 → qK g c i = 5 → p + 1 ≠ 5) ∧
  (stC (qJ g c i) p ≠ 3 → qK g c i = 5 → p + 1 ≠ wrP (qF g c i)) ∧ (stC (qJ g c i) p = 3 → rdP (qK g c i) (qO g c i) ≤ p ∧ (qK g c i = 5 → p + 1 = wrP (qF g c i) ∧ 5 ≤ p) ∧ ¬ (qK g c i = 3 ∧ qO g c i = 1) ∧ ¬ (qK g c i = 4 ∧ (qO g c i = 1 ∨ qO g c i = 3)) ∧ ¬ (qK g c i = 0 ∧ qO g c i = 1)) := by
  obtain ⟨⟨a1, a2⟩, ⟨a3, a4⟩, ⟨a5, a6, a7⟩, a8, a9⟩ := (t2 (G.op hc hi) (G.f hc hi) (p := p) (by have := (G.len hc hi).2.1; omega)).2 hp
  exact ⟨a1, a2, a3, a4, a5, a6, a7, a8, a9⟩
theorem GS.inn (G : GS g) (hc : c < qc g) (hi : i < qm g c) {p : Nat} (hp : p < stLen (qJ g c i)) : qS g c i p = stCode (stC (qJ g c i) p) (qM g c i p) ∧ qS g c i p ≠ 0 ∧ (stC (qJ g c i) p = 1 → qH g c i p (qM g c i p) = true) ∧ (stC (qJ g c i) p ≤ 1 → 0 ≤ qM g c i p ∧ qM g c i p ≤ 3) := lnk_in (G.op hc hi) (G.f hc hi) (G.cI hc) hp (by have := (G.len hc hi).2.1; omega)
theorem GS.en (G : GS g) (hc : c < qc g) (hi : i < qm g c) : qS g c i (stLen (qJ g c i)) = 0 := lnk_end (G.op hc hi) (G.f hc hi) (G.cI hc) (by have := (G.len hc hi).2.1; exact this)
end GSS
theorem SX.ak {g h : Hp} (G : GS g) (X : SX g h) {c i : Nat} (hc : c < qc g) (hi : i < qm g c) : AK h c i (qT g c i) (g.1 229 (8 * c + i)) (g.1 230 (8 * c + i)) (g.1 231 (8 * c + i)) := by
  obtain ⟨-, -, -, x4, x5, -⟩ := X
  obtain ⟨a1, a2⟩ := x4 c (G.c5 hc)
  obtain ⟨a3, a4, -⟩ := a2 i (G.i8 hc hi)
  obtain ⟨b1, b2, b3, b4, -⟩ := (x5 c hc).2 i hi
  exact ⟨a3, a4, by rw [b1]; exact G.e28 hc hi, b2, b3, b4, a1⟩
def sfO (h : Hp) (c : Nat) : Nat → Nat := fun i => (h.2 (152 + 12 * c + i) 7).getD 0
theorem SX.sq {g h : Hp} (X : SX g h) {c : Nat} (hc : c < 5) : SQ c (sfO h c) h.2 := ⟨X.1, fun i hi => by
  obtain ⟨s, hs⟩ := ((X.2.2.2.1 c hc).2 i hi).2.2
  unfold sfO
  rw [hs]
  rfl⟩
theorem sfO_eq {h : Hp} {c i s : Nat} (e : h.2 (152 + 12 * c + i) 7 = some s) : sfO h c i = s := by
  unfold sfO
  rw [e]
  rfl
theorem len_st {h : Hp} {j : Nat} (hj : j < 10) : fl_len h (1000 + j) = stLen j := by
  unfold fl_len
  rw [if_neg (by omega), if_neg (by omega), Nat.add_sub_cancel_left]
  rfl
/-! WHAT IS ALIKE -/
def rg (s : Int32) (j : Nat) : Nat := ((s + Int32.ofNat j) &&& Int32.ofInt 63).toNatClampNeg
def TRk (h hm : Hp) (t : Nat) : Prop := ∀ j : Nat, j < 32 → (hb (h.1 (5 + 24 * t) 1) j = true ↔ (hm.1 255 (32 * t + j)).toInt ≠ 0) ∧ ((hm.1 255 (32 * t + j)).toInt ≠ 0 → h.1 (6 + 24 * t) j = hm.1 256 (32 * t + j))
def TRq (h hm : Hp) (t : Nat) (b : Int) : Prop := h.1 (5 + 24 * t) 3 = hm.1 261 t ∧ (∀ j : Nat, (j : Int) < (hm.1 261 t).toInt → h.1 (6 + 24 * t) (rg (h.1 (5 + 24 * t) 2) j) = hm.1 260 (48 * t + j)) ∧ (0 ≤ (h.1 (5 + 24 * t) 4).toInt ∧ (h.1 (5 + 24 * t) 4).toInt ≤ b) ∧ ((h.1 (5 + 24 * t) 4).toInt > 0 ↔ (hm.1 262 t).toInt ≠ 0)
def TRs (h hm : Hp) (t : Nat) : Prop := ∀ m : Nat, m < 4 → h.1 (6 + 24 * t) m = hm.1 263 (4 * t + m)
def TRo (h hm : Hp) (t : Nat) : Prop := (∀ j : Nat, j < 32 → (hb (h.1 (4 + 24 * t) 9) j = true ↔ (hm.1 264 (32 * t + j)).toInt ≠ 0) ∧ h.1 (10 + 24 * t) j = hm.1 265 (32 * t + j)) ∧ h.1 (4 + 24 * t) 10 = hm.1 271 t ∧ h.1 (4 + 24 * t) 11 = hm.1 272 t
def TRc (g h hm : Hp) (t : Nat) (b : Int) : Prop := ((g.1 224 t).toInt = 0 ∨ (g.1 224 t).toInt = 4 ∨ (g.1 224 t).toInt = 5 → TRk h hm t) ∧ ((g.1 224 t).toInt = 1 ∨ (g.1 224 t).toInt = 2 → TRq h hm t b) ∧ ((g.1 224 t).toInt = 3 → TRs h hm t) ∧ ((g.1 224 t).toInt = 5 → TRo h hm t)
def OWN (g h hm : Hp) (t : Nat) : Prop := (∀ m : Nat, m < 4 → h.1 (8 + 24 * t) m = hm.1 254 (4 * t + m)) ∧ ((g.1 226 t).toInt = 1 → ∀ m : Nat, m < 4 → hm.1 254 (4 * t + m) = Int32.ofInt (-1))
def OUT (h hm : Hp) (c j : Nat) : Prop := (h.1 (152 + 12 * c + j) 15 = hm.1 239 (8 * c + j) ∧ h.1 (152 + 12 * c + j) 16 = hm.1 238 (8 * c + j)) ∧ ((h.1 (152 + 12 * c + j) 15).toInt = 6 ↔ (hm.1 241 (8 * c + j)).toInt = -1) ∧
  ((hm.1 241 (8 * c + j)).toInt ≠ -1 → 0 ≤ (hm.1 241 (8 * c + j)).toInt ∧ (hm.1 241 (8 * c + j)).toInt < (hm.1 223 16).toInt ∧ h.1 (152 + 12 * c + j) 17 = hm.1 237 (hm.1 241 (8 * c + j)).toNatClampNeg) ∧
  ((hm.1 242 (8 * c + j)).toInt ≠ -1 → 0 ≤ (hm.1 242 (8 * c + j)).toInt ∧ (hm.1 242 (8 * c + j)).toInt < (hm.1 223 16).toInt ∧ h.1 (152 + 12 * c + j) 18 = hm.1 237 (hm.1 242 (8 * c + j)).toNatClampNeg ∧ (hm.1 236 (hm.1 242 (8 * c + j)).toNatClampNeg).toInt ≠ 0) ∧
  ((hm.1 242 (8 * c + j)).toInt ≠ -1 ↔ (hm.1 239 (8 * c + j)).toInt ≤ 4)
def WTS (h hm : Hp) (c j : Nat) : Prop := h.1 (152 + 12 * c + j) 12 = hm.1 240 (8 * c + j)
/-- the marks -/
def MK (h hm : Hp) (b1 b2 : Int) : Prop := h.1 208 4 = hm.1 223 16 ∧ ∀ j : Nat, (j : Int) < (hm.1 223 16).toInt → (h.1 209 (4 * j) = Int32.ofNat ((hm.1 235 j).toNatClampNeg / 8) ∧ h.1 209 (4 * j + 1) = Int32.ofNat ((hm.1 235 j).toNatClampNeg % 8) ∧ h.1 209 (4 * j + 2) = hm.1 236 j ∧ h.1 209 (4 * j + 3) = hm.1 237 j) ∧ (hm.1 237 j).toInt < b1 ∧ ((hm.1 236 j).toInt ≠ 0 → (hm.1 237 j).toInt < b2) ∧ ∀ i : Nat, i < j → (hm.1 237 i).toInt ≤ (hm.1 237 j).toInt ∧ ((hm.1 236 i).toInt ≠ 0 → (hm.1 237 i).toInt < (hm.1 237 j).toInt)
def FUT (g h : Hp) (c j : Nat) : Prop := h.2 (152 + 12 * c + j) 7 = some (1000 + qJ g c j) ∧ h.1 (152 + 12 * c + j) 9 = Int32.ofNat 0 ∧ h.1 (152 + 12 * c + j) 10 = Int32.ofInt 0
/-- what an act's outcome tells of its answer -/
def HOWj (g h hm : Hp) (c j : Nat) : Prop := ((hm.1 239 (8 * c + j)).toInt ≠ 0 → hm.1 238 (8 * c + j) = Int32.ofInt 0) ∧ (qK g c j = 5 → (hm.1 239 (8 * c + j)).toInt ≠ 1 ∧ (hm.1 239 (8 * c + j)).toInt ≠ 2) ∧ h.1 (152 + 12 * c + j) 8 = Int32.ofInt (monI (qK g c j) (qO g c j) (qA g c j) c) ∧ ((hm.1 242 (8 * c + j)).toInt ≠ -1 → (hm.1 241 (8 * c + j)).toInt ≤ (hm.1 242 (8 * c + j)).toInt)
def CKi (g h hm : Hp) (c i : Nat) : Prop := (h.1 (148 + 12 * c) 4 = Int32.ofNat i ∧ hm.1 243 c = Int32.ofNat i ∧ i ≤ qm g c) ∧ (∀ j : Nat, j < qm g c → OUT h hm c j ∧ WTS h hm c j) ∧ (∀ j : Nat, i ≤ j → j < qm g c → h.1 (152 + 12 * c + j) 8 = Int32.ofInt (monI (qK g c j) (qO g c j) (qA g c j) c) ∧ (i < j → FUT g h c j) ∧ (hm.1 242 (8 * c + j)).toInt = -1) ∧ (i = qm g c → hm.1 245 c = Int32.ofInt 0) ∧ ∀ j : Nat, j < qm g c → HOWj g h hm c j
/-- what was noted, in an act that stands at p -/
def NT (g h hm : Hp) (c i p : Nat) : Prop :=
  (qK g c i = 0 → rdP (qK g c i) (qO g c i) ≤ p → h.1 (152 + 12 * c + i) 13 = hm.1 248 c ∧ (h.1 (152 + 12 * c + i) 14).toInt = (if qO g c i = 3 ∨ (hm.1 247 c).toInt ≠ 0 then 0 else 1)) ∧
  (qK g c i = 1 → rdP (qK g c i) (qO g c i) ≤ p → (qO g c i = 0 → h.1 (152 + 12 * c + i) 13 = g.1 230 (8 * c + i) ∧ (h.1 (152 + 12 * c + i) 14).toInt = 0) ∧ (qO g c i ≠ 0 → h.1 (152 + 12 * c + i) 13 = hm.1 248 c ∧ (h.1 (152 + 12 * c + i) 14).toInt = (if (hm.1 247 c).toInt ≠ 0 then 0 else 1))) ∧
  (qK g c i = 2 → rdP (qK g c i) (qO g c i) ≤ p → (h.1 (152 + 12 * c + i) 14).toInt = (if (hm.1 249 c).toInt ≠ 0 then 2 else 0) ∧ ((hm.1 249 c).toInt = 0 → h.1 (152 + 12 * c + i) 13 = (if qO g c i < 2 then g.1 230 (8 * c + i) else if qO g c i = 4 then Int32.ofInt 0 else hm.1 248 c))) ∧
  (qK g c i = 3 → rdP (qK g c i) (qO g c i) ≤ p → h.1 (152 + 12 * c + i) 13 = hm.1 248 c ∧ (h.1 (152 + 12 * c + i) 14).toInt = 0) ∧
  (qK g c i = 4 → rdP (qK g c i) (qO g c i) ≤ p → h.1 (152 + 12 * c + i) 13 = hm.1 248 c ∧ (h.1 (152 + 12 * c + i) 14).toInt = (if (hm.1 247 c).toInt ≠ 0 then 0 else 1) ∧ (rdP (qK g c i) (qO g c i) = 2 → ∀ j : Nat, j < 32 → (hb (h.1 (150 + 12 * c) 1) j = true ↔ (hm.1 252 (32 * c + j)).toInt ≠ 0) ∧ ((hm.1 252 (32 * c + j)).toInt ≠ 0 → h.1 (151 + 12 * c) j = hm.1 253 (32 * c + j)))) ∧
  (qK g c i = 5 → rdP (qK g c i) (qO g c i) ≤ p → (h.1 (152 + 12 * c + i) 14).toInt = (if 5 ≤ p ∧ (hm.1 250 c).toInt ≠ 0 then 3 else 0) ∧ (wrP (qF g c i) ≤ p → (hm.1 250 c).toInt = 0 → h.1 (152 + 12 * c + i) 13 = Int32.ofInt (1000 * (c + 1) + i)))
/-- what it holds -/
def HLD (g hm : Hp) (c i p : Nat) : Prop := qF g c i ≠ 1 → ∀ m : Nat, m < 4 → qH g c i p m = true → hm.1 254 (4 * qT g c i + m) = Int32.ofNat c
def CUw (g h hm : Hp) (c i : Nat) (q : Int) : Prop := (h.1 (152 + 12 * c + i) 10 = Int32.ofInt 1 ∧ hm.1 245 c = Int32.ofInt 1) ∧ h.1 (152 + 12 * c + i) 11 = hm.1 246 c ∧ hm.1 244 c = Int32.ofInt q ∧ h.2 (152 + 12 * c + i) 7 = some (1000 + qJ g c i) ∧ hm.1 251 c = Int32.ofInt 0 ∧ (qK g c i = 2 ∨ qK g c i = 5) ∧ ∃ pl : Nat, pl < stLen (qJ g c i) ∧ h.1 (152 + 12 * c + i) 9 = Int32.ofNat pl
def CUn (g h hm : Hp) (c i pc : Nat) (q : Int) (p : Nat) : Prop := (h.1 (152 + 12 * c + i) 10 = Int32.ofInt 0 ∧ hm.1 245 c = Int32.ofInt 0) ∧ h.1 (152 + 12 * c + i) 9 = Int32.ofNat pc ∧ hm.1 244 c = Int32.ofInt q ∧ h.2 (152 + 12 * c + i) 7 = some (1000 + qJ g c i) ∧ hm.1 251 c = Int32.ofInt 0 ∧ NT g h hm c i p ∧ HLD g hm c i p
def CUs (g h hm : Hp) (c i pc : Nat) (q : Int) (p : Nat) : Prop := (h.1 (152 + 12 * c + i) 10 = Int32.ofInt 0 ∧ hm.1 245 c = Int32.ofInt 0) ∧ h.1 (152 + 12 * c + i) 9 = Int32.ofNat pc ∧ hm.1 244 c = Int32.ofInt q ∧ h.2 (152 + 12 * c + i) 7 = some 1009 ∧ hm.1 251 c = Int32.ofInt 1 ∧ qK g c i = 5 ∧ (h.1 (152 + 12 * c + i) 13 = hm.1 248 c ∧ (h.1 (152 + 12 * c + i) 14).toInt = 0) ∧ HLD g hm c i p
def CU (g h hm : Hp) (c i : Nat) : Prop := CUw g h hm c i 0 ∨ (∃ p : Nat, p < stLen (qJ g c i) ∧ CUn g h hm c i p p p) ∨ CUs g h hm c i 2 3 3
def CLK (g h hm : Hp) (c : Nat) : Prop := ∃ i : Nat, CKi g h hm c i ∧ (i < qm g c → CU g h hm c i)
def RX (g h hm : Hp) (st : Nat) (b1 b2 : Int) : Prop := SX g h ∧ SM g hm ∧ hm.1 223 15 = Int32.ofNat st ∧ MK h hm b1 b2 ∧ TInv hm
/-- at the loops' heads -/
def RR (g h hm : Hp) (st : Nat) : Prop := RX g h hm st st st ∧ (∀ t : Nat, t < qt g → TRc g h hm t st ∧ OWN g h hm t) ∧ ∀ c : Nat, c < qc g → CLK g h hm c
/-- within a step of clerk c, its act i -/
def RRM (g h hm : Hp) (st c i : Nat) (b : Int) (Z : Prop) : Prop := RX g h hm st (st + 1) st ∧ (∀ t : Nat, t < qt g → TRc g h hm t b ∧ OWN g h hm t) ∧ (∀ o : Nat, o < qc g → o ≠ c → CLK g h hm o) ∧ c < qc g ∧ i < qm g c ∧ CKi g h hm c i ∧ ((hm.1 241 (8 * c + i)).toInt ≠ -1 ∧ (hm.1 223 16).toInt < 80) ∧ (hm.1 242 (8 * c + i)).toInt = -1 ∧ Z
/-! FRAMES -/
/-- marks are added alone -/
def KMX (hm hm' : Hp) : Prop := (hm.1 223 16).toInt ≤ (hm'.1 223 16).toInt ∧ ∀ j : Nat, (j : Int) < (hm.1 223 16).toInt → hm'.1 235 j = hm.1 235 j ∧ hm'.1 236 j = hm.1 236 j ∧ hm'.1 237 j = hm.1 237 j
theorem KMX.refl (h : Hp) : KMX h h := ⟨Int.le_refl _, fun _ _ => ⟨rfl, rfl, rfl⟩⟩
theorem KMX.of_out {hm hm' : Hp} (o : ∀ K j : Nat, K ≠ 245 → hm'.1 K j = hm.1 K j) : KMX hm hm' := ⟨by rw [o _ _ (by decide)]; exact Int.le_refl _, fun j _ => ⟨o _ _ (by decide), o _ _ (by decide), o _ _ (by decide)⟩⟩
theorem nn_lt {x y : Int32} (h0 : 0 ≤ x.toInt) (h : x.toInt < y.toInt) : (x.toNatClampNeg : Int) < y.toInt := by
  have : (x.toNatClampNeg : Int) = x.toInt := by
    show ((x.toInt.toNat : Nat) : Int) = x.toInt
    omega
  omega
def KFC (c : Nat) (h h' hm hm' : Hp) : Prop := (∀ r j : Nat, 148 + 12 * c ≤ r → r < 160 + 12 * c → h'.1 r j = h.1 r j ∧ h'.2 r j = h.2 r j) ∧ (∀ K : Nat, 243 ≤ K → K ≤ 251 → hm'.1 K c = hm.1 K c) ∧ (∀ K j : Nat, K = 252 ∨ K = 253 → 32 * c ≤ j → j < 32 * c + 32 → hm'.1 K j = hm.1 K j) ∧ (∀ K j : Nat, 238 ≤ K → K ≤ 242 → 8 * c ≤ j → j < 8 * c + 8 → hm'.1 K j = hm.1 K j) ∧ (∀ j : Nat, hm.1 254 j = Int32.ofNat c → hm'.1 254 j = Int32.ofNat c)
section FRS
variable {g h h' hm hm' : Hp} {c i : Nat}
theorem OUT.fr {j : Nat} (a : ∀ k : Nat, 15 ≤ k → h'.1 (152 + 12 * c + j) k = h.1 (152 + 12 * c + j) k) (b : ∀ K : Nat, K = 238 ∨ K = 239 ∨ K = 241 ∨ K = 242 → hm'.1 K (8 * c + j) = hm.1 K (8 * c + j)) (M : KMX hm hm') (O : OUT h hm c j) : OUT h' hm' c j := by
  obtain ⟨⟨o1, o2⟩, o4, o5, o6, o7⟩ := O
  unfold OUT
  rw [a 15 (by decide), a 16 (by decide), a 17 (by decide), a 18 (by decide), b 239 (by simp), b 238 (by simp), b 241 (by simp), b 242 (by simp)]
  refine ⟨⟨o1, o2⟩, o4, fun z => ?_, fun z => ?_, o7⟩
  · obtain ⟨q1, q2, q3⟩ := o5 z
    exact ⟨q1, Int.lt_of_lt_of_le q2 M.1, by rw [(M.2 _ (nn_lt q1 q2)).2.2]; exact q3⟩
  · obtain ⟨q1, q2, q3, q4⟩ := o6 z
    exact ⟨q1, Int.lt_of_lt_of_le q2 M.1, by rw [(M.2 _ (nn_lt q1 q2)).2.2]; exact q3, by rw [(M.2 _ (nn_lt q1 q2)).2.1]; exact q4⟩
/-- of clerk c all that it keeps while its act i goes on -/
def KFK (g : Hp) (c i : Nat) (h h' hm hm' : Hp) : Prop := (∀ k : Nat, h'.1 (148 + 12 * c) k = h.1 (148 + 12 * c) k) ∧ (∀ j k : Nat, j < 8 → (j ≠ i ∨ k = 8 ∨ 15 ≤ k) → h'.1 (152 + 12 * c + j) k = h.1 (152 + 12 * c + j) k) ∧ (∀ j : Nat, j < 8 → j ≠ i → h'.2 (152 + 12 * c + j) 7 = h.2 (152 + 12 * c + j) 7) ∧ hm'.1 243 c = hm.1 243 c ∧ (∀ K j : Nat, 238 ≤ K → K ≤ 242 → j < 8 → ¬ (K = 240 ∧ j = i) → hm'.1 K (8 * c + j) = hm.1 K (8 * c + j)) ∧ (i = qm g c → hm'.1 245 c = hm.1 245 c)
theorem CKi.fk (F : KFK g c i h h' hm hm') (M : KMX hm hm') (h8 : qm g c ≤ 8) (w : i < qm g c → WTS h' hm' c i) (O : CKi g h hm c i) : CKi g h' hm' c i := by
  obtain ⟨⟨a1, a2, a3⟩, a4, a5, a6, a7⟩ := O
  obtain ⟨f1, f2, f3, f4, f5, f6⟩ := F
  refine ⟨⟨?_, ?_, a3⟩, fun j hj => ⟨(a4 j hj).1.fr (fun k hk => f2 j k (by omega) (Or.inr (Or.inr hk))) (fun K hK => f5 K j (by omega) (by omega) (by omega) (by omega)) M, ?_⟩, fun j h1 h2 => ⟨?_, fun h3 => ?_, ?_⟩, fun z => ?_, fun j hj => ?_⟩
  · rw [f1]; exact a1
  · rw [f4]; exact a2
  · by_cases hji : j = i
    · subst hji
      exact w hj
    · have := (a4 j hj).2
      unfold WTS at this ⊢
      rw [f2 j 12 (by omega) (Or.inl hji), f5 240 j (by decide) (by decide) (by omega) (by omega)]
      exact this
  · rw [f2 j 8 (by omega) (Or.inr (Or.inl rfl))]; exact (a5 j h1 h2).1
  · have := (a5 j h1 h2).2.1 h3
    unfold FUT at this ⊢
    rw [f3 j (by omega) (by omega), f2 j 9 (by omega) (Or.inl (by omega)), f2 j 10 (by omega) (Or.inl (by omega))]
    exact this
  · rw [f5 242 j (by decide) (by decide) (by omega) (by omega)]; exact (a5 j h1 h2).2.2
  · rw [f6 z]; exact a6 z
  · unfold HOWj
    rw [f5 239 j (by decide) (by decide) (by omega) (by omega), f5 238 j (by decide) (by decide) (by omega) (by omega), f5 241 j (by decide) (by decide) (by omega) (by omega), f5 242 j (by decide) (by decide) (by omega) (by omega), f2 j 8 (by omega) (Or.inr (Or.inl rfl))]
    exact a7 j hj
theorem KFC.fk (F : KFC c h h' hm hm') (hi : i ≤ 8) : KFK g c i h h' hm hm' := by
  obtain ⟨f1, f2, f3, f4, f5⟩ := F
  exact ⟨fun k => (f1 _ k (by omega) (by omega)).1, fun j k hj _ => (f1 _ k (by omega) (by omega)).1, fun j hj _ => (f1 _ 7 (by omega) (by omega)).2, f2 243 (by decide) (by decide), fun K j h1 h2 hj _ => f4 K _ h1 h2 (by omega) (by omega), fun _ => f2 245 (by decide) (by decide)⟩
theorem CKi.fr (F : KFC c h h' hm hm') (M : KMX hm hm') (h8 : qm g c ≤ 8) (O : CKi g h hm c i) : CKi g h' hm' c i := by
  have hi : i ≤ 8 := by have := O.1.2.2; omega
  refine O.fk (F.fk hi) M h8 fun z => ?_
  have := (O.2.1 i z).2
  unfold WTS at this ⊢
  rw [(F.1 _ 12 (by omega) (by omega)).1, F.2.2.2.1 240 _ (by decide) (by decide) (by omega) (by omega)]
  exact this
theorem HLD.fr {p : Nat} (o : ∀ j : Nat, hm.1 254 j = Int32.ofNat c → hm'.1 254 j = Int32.ofNat c) (O : HLD g hm c i p) : HLD g hm' c i p := fun z m h4 hh => o _ (O z m h4 hh)
theorem NT.fr {p : Nat} (hi : i < 8) (F : KFC c h h' hm hm') (O : NT g h hm c i p) : NT g h' hm' c i p := by
  have a : ∀ k, h'.1 (152 + 12 * c + i) k = h.1 (152 + 12 * c + i) k := fun k => (F.1 _ k (by omega) (by omega)).1
  have b : ∀ K, 243 ≤ K → K ≤ 251 → hm'.1 K c = hm.1 K c := F.2.1
  unfold NT
  rw [a, a, b 247 (by decide) (by decide), b 248 (by decide) (by decide), b 249 (by decide) (by decide), b 250 (by decide) (by decide), (F.1 _ 1 (by omega) (by omega)).1]
  obtain ⟨n0, n1, n2, n3, n4, n5⟩ := O
  refine ⟨n0, n1, n2, n3, fun z1 z2 => ⟨(n4 z1 z2).1, (n4 z1 z2).2.1, fun z3 j hj => ?_⟩, n5⟩
  rw [(F.1 (151 + 12 * c) j (by omega) (by omega)).1, F.2.2.1 252 _ (Or.inl rfl) (by omega) (by omega), F.2.2.1 253 _ (Or.inr rfl) (by omega) (by omega)]
  exact (n4 z1 z2).2.2 z3 j hj
theorem CUw.fr {q : Int} (hi : i < 8) (F : KFC c h h' hm hm') (O : CUw g h hm c i q) : CUw g h' hm' c i q := by
  have a : ∀ k, h'.1 (152 + 12 * c + i) k = h.1 (152 + 12 * c + i) k := fun k => (F.1 _ k (by omega) (by omega)).1
  unfold CUw
  rw [a, a, a, (F.1 _ 7 (by omega) (by omega)).2, F.2.1 244 (by decide) (by decide), F.2.1 245 (by decide) (by decide), F.2.1 246 (by decide) (by decide), F.2.1 251 (by decide) (by decide)]
  exact O
theorem CUn.fr {pc p : Nat} {q : Int} (hi : i < 8) (F : KFC c h h' hm hm') (O : CUn g h hm c i pc q p) : CUn g h' hm' c i pc q p := by
  have a : ∀ k, h'.1 (152 + 12 * c + i) k = h.1 (152 + 12 * c + i) k := fun k => (F.1 _ k (by omega) (by omega)).1
  obtain ⟨o1, o2, o3, o4, o5, o6, o7⟩ := O
  refine ⟨?_, ?_, ?_, ?_, ?_, o6.fr hi F, o7.fr F.2.2.2.2⟩
  · rw [a, F.2.1 245 (by decide) (by decide)]; exact o1
  · rw [a]; exact o2
  · rw [F.2.1 244 (by decide) (by decide)]; exact o3
  · rw [(F.1 _ 7 (by omega) (by omega)).2]; exact o4
  · rw [F.2.1 251 (by decide) (by decide)]; exact o5
theorem CUs.fr {pc p : Nat} {q : Int} (hi : i < 8) (F : KFC c h h' hm hm') (O : CUs g h hm c i pc q p) : CUs g h' hm' c i pc q p := by
  have a : ∀ k, h'.1 (152 + 12 * c + i) k = h.1 (152 + 12 * c + i) k := fun k => (F.1 _ k (by omega) (by omega)).1
  obtain ⟨o1, o2, o3, o4, o5, o6, o7, o8⟩ := O
  refine ⟨?_, ?_, ?_, ?_, ?_, o6, ?_, o8.fr F.2.2.2.2⟩
  · rw [a, F.2.1 245 (by decide) (by decide)]; exact o1
  · rw [a]; exact o2
  · rw [F.2.1 244 (by decide) (by decide)]; exact o3
  · rw [(F.1 _ 7 (by omega) (by omega)).2]; exact o4
  · rw [F.2.1 251 (by decide) (by decide)]; exact o5
  · rw [a, a, F.2.1 248 (by decide) (by decide)]; exact o7
theorem CU.fr (hi : i < 8) (F : KFC c h h' hm hm') (O : CU g h hm c i) : CU g h' hm' c i := by
  rcases O with O | ⟨p, hp, O⟩ | O
  · exact Or.inl (O.fr hi F)
  · exact Or.inr (Or.inl ⟨p, hp, O.fr hi F⟩)
  · exact Or.inr (Or.inr (O.fr hi F))
theorem CLK.fr (F : KFC c h h' hm hm') (M : KMX hm hm') (h8 : qm g c ≤ 8) (O : CLK g h hm c) : CLK g h' hm' c := by
  obtain ⟨i, a, b⟩ := O
  exact ⟨i, a.fr F M h8, fun z => (b z).fr (by omega) F⟩
/-- the same content of a tray -/
def FTc (t : Nat) (h h' hm hm' : Hp) : Prop := (∀ j : Nat, h'.1 (5 + 24 * t) j = h.1 (5 + 24 * t) j ∧ h'.1 (6 + 24 * t) j = h.1 (6 + 24 * t) j ∧ h'.1 (10 + 24 * t) j = h.1 (10 + 24 * t) j ∧ h'.1 (4 + 24 * t) j = h.1 (4 + 24 * t) j) ∧ (∀ K j : Nat, K = 255 ∨ K = 256 ∨ K = 264 ∨ K = 265 → 32 * t ≤ j → j < 32 * t + 32 → hm'.1 K j = hm.1 K j) ∧ (∀ j : Nat, 48 * t ≤ j → j < 48 * t + 48 → hm'.1 260 j = hm.1 260 j) ∧ (∀ K : Nat, K = 261 ∨ K = 262 ∨ K = 271 ∨ K = 272 → hm'.1 K t = hm.1 K t) ∧ (∀ j : Nat, 4 * t ≤ j → j < 4 * t + 4 → hm'.1 263 j = hm.1 263 j)
theorem TRc.fr {t : Nat} {b b' : Int} (h40 : (hm.1 261 t).toInt ≤ 40) (hb : b ≤ b') (F : FTc t h h' hm hm') (T : TRc g h hm t b) : TRc g h' hm' t b' := by
  obtain ⟨f1, f2, f3, f4, f5⟩ := F
  obtain ⟨t1, t2, t3, t4⟩ := T
  refine ⟨fun z j hj => ?_, fun z => ?_, fun z m hm4 => ?_, fun z => ?_⟩
  · rw [(f1 _).1, (f1 _).2.1, f2 255 _ (by simp) (by omega) (by omega), f2 256 _ (by simp) (by omega) (by omega)]
    exact t1 z j hj
  · obtain ⟨q1, q2, q3, q4⟩ := t2 z
    unfold TRq
    rw [(f1 3).1, (f1 2).1, (f1 4).1, f4 261 (by simp), f4 262 (by simp)]
    refine ⟨q1, fun j hj => ?_, ⟨q3.1, Int.le_trans q3.2 hb⟩, q4⟩
    rw [(f1 _).2.1, f3 _ (by omega) (by omega)]
    exact q2 j hj
  · rw [(f1 _).2.1, f5 _ (by omega) (by omega)]
    exact t3 z m hm4
  · obtain ⟨q1, q2, q3⟩ := t4 z
    refine ⟨fun j hj => ?_, ?_, ?_⟩
    · rw [(f1 _).2.2.2, (f1 _).2.2.1, f2 264 _ (by simp) (by omega) (by omega), f2 265 _ (by simp) (by omega) (by omega)]
      exact q1 j hj
    · rw [(f1 _).2.2.2, f4 271 (by simp)]; exact q2
    · rw [(f1 _).2.2.2, f4 272 (by simp)]; exact q3
theorem OWN.fr {t : Nat} (f1 : ∀ j : Nat, h'.1 (8 + 24 * t) j = h.1 (8 + 24 * t) j) (f2 : ∀ j : Nat, 4 * t ≤ j → j < 4 * t + 4 → hm'.1 254 j = hm.1 254 j) (O : OWN g h hm t) : OWN g h' hm' t := by
  refine ⟨fun m h4 => ?_, fun z m h4 => ?_⟩
  · rw [f1, f2 _ (by omega) (by omega)]; exact O.1 m h4
  · rw [f2 _ (by omega) (by omega)]; exact O.2 z m h4
end FRS
/-! A STEP OF CLERK c, ITS ACT i, ON TRAY t -/
def KFX (c i t : Nat) (h h' : Hp) : Prop := (∀ r j : Nat, ¬ (r = 152 + 12 * c + i ∧ 7 ≤ j ∧ j ≤ 14 ∧ j ≠ 8) → ¬ (r = 150 + 12 * c ∨ r = 151 + 12 * c) → ¬ ((4 + 24 * t ≤ r ∧ r < 12 + 24 * t ∧ ¬ (r = 4 + 24 * t ∧ j ≤ 8) ∧ r ≠ 9 + 24 * t) ∨ (12 ≤ r ∧ r < 148 ∧ 8 ≤ (r - 4) % 24)) → h'.1 r j = h.1 r j) ∧ ∀ r j : Nat, ¬ (r = 152 + 12 * c + i ∧ j = 7) → ¬ (12 ≤ r ∧ r < 148 ∧ 8 ≤ (r - 4) % 24 ∧ ¬ (r % 4 = 0 ∧ j = 2)) → h'.2 r j = h.2 r j
def KFM (c i t : Nat) (h h' : Hp) : Prop := (∀ K j : Nat, 223 ≤ K → ¬ (K = 223 ∧ j = 42) → ¬ (K = 240 ∧ j = 8 * c + i) → ¬ (244 ≤ K ∧ K ≤ 251 ∧ j = c) → ¬ ((K = 252 ∨ K = 253) ∧ 32 * c ≤ j ∧ j < 32 * c + 32) → ¬ ((K = 254 ∨ K = 263) ∧ 4 * t ≤ j ∧ j < 4 * t + 4) → ¬ ((K = 255 ∨ K = 256 ∨ K = 264 ∨ K = 265) ∧ 32 * t ≤ j ∧ j < 32 * t + 32) → ¬ (K = 260 ∧ 48 * t ≤ j ∧ j < 48 * t + 48) → ¬ ((K = 261 ∨ K = 262 ∨ K = 271 ∨ K = 272) ∧ j = t) → ¬ (257 ≤ K ∧ K ≤ 259 ∨ 266 ≤ K ∧ K ≤ 270) → h'.1 K j = h.1 K j) ∧ h'.2 = h.2
theorem KFX.refl (c i t : Nat) (h : Hp) : KFX c i t h h := ⟨fun _ _ _ _ _ => rfl, fun _ _ _ _ => rfl⟩
theorem KFM.refl (c i t : Nat) (h : Hp) : KFM c i t h h := ⟨fun _ _ _ _ _ _ _ _ _ _ _ _ => rfl, rfl⟩
theorem KFX.trans {c i t : Nat} {a b e : Hp} (x : KFX c i t a b) (y : KFX c i t b e) : KFX c i t a e := ⟨fun r j z1 z2 z3 => (y.1 r j z1 z2 z3).trans (x.1 r j z1 z2 z3), fun r j z1 z2 => (y.2 r j z1 z2).trans (x.2 r j z1 z2)⟩
theorem KFM.trans {c i t : Nat} {a b e : Hp} (x : KFM c i t a b) (y : KFM c i t b e) : KFM c i t a e := ⟨fun r j z0 z1 z2 z3 z4 z5 z6 z7 z8 z9 => (y.1 r j z0 z1 z2 z3 z4 z5 z6 z7 z8 z9).trans (x.1 r j z0 z1 z2 z3 z4 z5 z6 z7 z8 z9), y.2.trans x.2⟩
theorem KFX.set {c i t : Nat} {h h' : Hp} (x : KFX c i t h h') (r j : Nat) (v : Int32) (ok : (r = 152 + 12 * c + i ∧ 7 ≤ j ∧ j ≤ 14 ∧ j ≠ 8) ∨ (r = 150 + 12 * c ∨ r = 151 + 12 * c) ∨ ((4 + 24 * t ≤ r ∧ r < 12 + 24 * t ∧ ¬ (r = 4 + 24 * t ∧ j ≤ 8) ∧ r ≠ 9 + 24 * t) ∨ (12 ≤ r ∧ r < 148 ∧ 8 ≤ (r - 4) % 24))) : KFX c i t h (fl_setI h' r j v) := by
  refine ⟨fun r' j' z1 z2 z3 => ?_, x.2⟩
  rw [setI_no (by
    rintro ⟨rfl, rfl⟩
    rcases ok with ok | ok | ok
    · exact z1 ok
    · exact z2 ok
    · exact z3 ok)]
  exact x.1 r' j' z1 z2 z3
theorem KFX.setR {c i t : Nat} {h h' : Hp} (x : KFX c i t h h') (v : Option Nat) : KFX c i t h (fl_setR h' (152 + 12 * c + i) 7 v) := by
  refine ⟨x.1, fun r' j' z1 z2 => ?_⟩
  rw [rR, if_neg z1]
  exact x.2 r' j' z1 z2
theorem KFM.set {c i t : Nat} {h h' : Hp} (x : KFM c i t h h') (K j : Nat) (v : Int32) (ok : (K = 223 ∧ j = 42) ∨ (K = 240 ∧ j = 8 * c + i) ∨ (244 ≤ K ∧ K ≤ 251 ∧ j = c) ∨ ((K = 252 ∨ K = 253) ∧ 32 * c ≤ j ∧ j < 32 * c + 32) ∨ ((K = 254 ∨ K = 263) ∧ 4 * t ≤ j ∧ j < 4 * t + 4) ∨ ((K = 255 ∨ K = 256 ∨ K = 264 ∨ K = 265) ∧ 32 * t ≤ j ∧ j < 32 * t + 32) ∨ (K = 260 ∧ 48 * t ≤ j ∧ j < 48 * t + 48) ∨ ((K = 261 ∨ K = 262 ∨ K = 271 ∨ K = 272) ∧ j = t) ∨ (257 ≤ K ∧ K ≤ 259 ∨ 266 ≤ K ∧ K ≤ 270)) : KFM c i t h (fl_setI h' K j v) := by
  refine ⟨fun r' j' z0 z1 z2 z3 z4 z5 z6 z7 z8 z9 => ?_, x.2⟩
  rw [setI_no (by
    rintro ⟨rfl, rfl⟩
    rcases ok with ok | ok | ok | ok | ok | ok | ok | ok | ok
    · exact z1 ok
    · exact z2 ok
    · exact z3 ok
    · exact z4 ok
    · exact z5 ok
    · exact z6 ok
    · exact z7 ok
    · exact z8 ok
    · exact z9 ok)]
  exact x.1 r' j' z0 z1 z2 z3 z4 z5 z6 z7 z8 z9
theorem SH.fx {R R' : Nat → Nat → Option Nat} {c0 i0 t0 : Nat} (hc0 : c0 < 5) (hi0 : i0 < 8) (ht0 : t0 < 6) (q : ∀ r j : Nat, ¬ (r = 152 + 12 * c0 + i0 ∧ j = 7) → ¬ (12 ≤ r ∧ r < 148 ∧ 8 ≤ (r - 4) % 24 ∧ ¬ (r % 4 = 0 ∧ j = 2)) → R' r j = R r j) (S : SH R) : SH R' := by
  exact ⟨⟨(q 0 0 (by omega) (by omega)).trans S.ix_0, (q 0 1 (by omega) (by omega)).trans S.ix_1, (q 0 2 (by omega) (by omega)).trans S.ix_2, (q 0 3 (by omega) (by omega)).trans S.ix_3, (q 0 4 (by omega) (by omega)).trans S.ix_4, (q 1 0 (by omega) (by omega)).trans S.desk_0, (q 1 1 (by omega) (by omega)).trans S.desk_1, (q 208 0 (by omega) (by omega)).trans S.run_0, (q 208 1 (by omega) (by omega)).trans S.run_1, (q 208 2 (by omega) (by omega)).trans S.run_2, (q 208 3 (by omega) (by omega)).trans S.run_3, (q 212 0 (by omega) (by omega)).trans S.chk_0, (q 212 1 (by omega) (by omega)).trans S.chk_1, (q 212 2 (by omega) (by omega)).trans S.chk_2, (q 212 3 (by omega) (by omega)).trans S.chk_3, (q 212 4 (by omega) (by omega)).trans S.chk_4, (q 212 5 (by omega) (by omega)).trans S.chk_5, (q 213 0 (by omega) (by omega)).trans S.plain_0, (q 218 0 (by omega) (by omega)).trans S.exp_0, (q 218 1 (by omega) (by omega)).trans S.exp_1, (q 218 2 (by omega) (by omega)).trans S.exp_2, (q 218 3 (by omega) (by omega)).trans S.exp_3, (q 218 4 (by omega) (by omega)).trans S.exp_4, (q 218 5 (by omega) (by omega)).trans S.exp_5⟩,
   fun t ht => ⟨(q 2 t (by omega) (by omega)).trans (S.trs ht), (q _ 0 (by omega) (by omega)).trans (S.tray_0 ht), (q _ 1 (by omega) (by omega)).trans (S.tray_1 ht), (q _ 2 (by omega) (by omega)).trans (S.tray_2 ht), (q _ 3 (by omega) (by omega)).trans (S.tray_3 ht), (q _ 4 (by omega) (by omega)).trans (S.tray_4 ht), (q _ 5 (by omega) (by omega)).trans (S.tray_5 ht), (q _ 0 (by omega) (by omega)).trans (S.cards_0 ht)⟩,
   fun t ht s hs => ⟨(q _ s (by omega) (by omega)).trans (S.strs ht hs), (q _ 2 (by omega) (by omega)).trans (S.stripe_2 ht hs)⟩,
   fun c hc => ⟨(q 3 c (by omega) (by omega)).trans (S.cks hc), (q _ 1 (by omega) (by omega)).trans (S.clerk_1 hc), (q _ 2 (by omega) (by omega)).trans (S.clerk_2 hc), (q _ 0 (by omega) (by omega)).trans (S.copy_0 hc)⟩,
   fun c hc i hi => (q _ i (by omega) (by omega)).trans (S.acts hc hi),
   fun p hp => (q 223 p.1 (by omega) (by omega)).trans (S.2.2.2.2.2 p hp)⟩
theorem SX.fx {g h h' : Hp} {c i t : Nat} (G : GS g) (hc : c < 5) (hi : i < 8) (ht : t < 6) (F : KFX c i t h h') (hs : ∃ s, h'.2 (152 + 12 * c + i) 7 = some s) (X : SX g h) : SX g h' := by
  have t6 := G.1.1
  have c5 := G.1.2.2.1
  obtain ⟨x1, ⟨x2, x3⟩, x4, x5, x6, x7⟩ := X
  have f := F.1
  refine ⟨SH.fx hc hi ht F.2 x1, ⟨?_, ?_⟩, fun u hu => ?_, fun o ho => ⟨?_, fun j hj => ⟨?_, ?_, ?_⟩⟩, fun o ho => ?_, fun j p h1 h2 => ?_⟩
  · rw [f _ _ (by omega) (by omega) (by omega)]; exact x2
  · rw [f _ _ (by omega) (by omega) (by omega)]; exact x3
  · rw [f _ 6 (by omega) (by omega) (by omega), f _ 7 (by omega) (by omega) (by omega), f _ 8 (by omega) (by omega) (by omega)]; exact x4 u hu
  · rw [f _ _ (by omega) (by omega) (by omega)]; exact (x5 o ho).1
  · rw [f _ _ (by omega) (by omega) (by omega)]; exact ((x5 o ho).2 j hj).1
  · rw [f _ _ (by omega) (by omega) (by omega)]; exact ((x5 o ho).2 j hj).2.1
  · by_cases e : o = c ∧ j = i
    · obtain ⟨rfl, rfl⟩ := e
      exact hs
    · rw [F.2 _ _ (by omega) (by omega)]; exact ((x5 o ho).2 j hj).2.2
  · obtain ⟨y1, y2⟩ := x6 o ho
    refine ⟨?_, fun j hj => ?_⟩
    · rw [f _ _ (by omega) (by omega) (by omega)]; exact y1
    · have j8 := G.i8 ho hj
      rw [f _ 2 (by omega) (by omega) (by omega), f _ 3 (by omega) (by omega) (by omega), f _ 4 (by omega) (by omega) (by omega), f _ 5 (by omega) (by omega) (by omega), f _ 6 (by omega) (by omega) (by omega)]
      exact y2 j hj
  · rw [f _ _ (by omega) (by omega) (by omega)]; exact x7 j p h1 h2
theorem KFM.k {c i t : Nat} {h h' : Hp} (F : KFM c i t h h') {K j : Nat} (h1 : 223 ≤ K) (h2 : K ≤ 243) (h3 : ¬ (K = 223 ∧ j = 42)) (h4 : ¬ (K = 240 ∧ j = 8 * c + i)) : h'.1 K j = h.1 K j :=
  F.1 K j h1 h3 h4 (by omega) (by omega) (by omega) (by omega) (by omega) (by omega) (by omega)
theorem SM.fm {g h h' : Hp} {c i t : Nat} (F : KFM c i t h h') (X : SM g h) : SM g h' := by
  obtain ⟨x1, x2, x3, x4⟩ := X
  refine ⟨by rw [F.2]; exact x1, ?_, ?_, fun K j h1 h2 => ?_⟩
  · rw [F.k (by decide) (by decide) (by omega) (by omega)]; exact x2
  · rw [F.k (by decide) (by decide) (by omega) (by omega)]; exact x3
  · rw [F.k (by omega) (by omega) (by omega) (by omega)]; exact x4 K j h1 h2
theorem MK.fr {h h' hm hm' : Hp} {b1 b2 : Int} (e1 : h'.1 208 4 = h.1 208 4) (e2 : ∀ j, h'.1 209 j = h.1 209 j) (e3 : hm'.1 223 16 = hm.1 223 16) (e4 : ∀ K j : Nat, 235 ≤ K → K ≤ 237 → hm'.1 K j = hm.1 K j) (M : MK h hm b1 b2) : MK h' hm' b1 b2 := by
  unfold MK
  rw [e1, e3]
  refine ⟨M.1, fun j hj => ?_⟩
  rw [e2, e2, e2, e2, e4 235 _ (by decide) (by decide), e4 236 _ (by decide) (by decide), e4 237 _ (by decide) (by decide)]
  obtain ⟨m1, m2, m3, m4⟩ := M.2 j hj
  refine ⟨m1, m2, m3, fun i hi => ?_⟩
  rw [e4 236 _ (by decide) (by decide), e4 237 _ (by decide) (by decide)]
  exact m4 i hi
theorem RRM.go {g h hm h' hm' : Hp} {st c i : Nat} {b b' : Int} {Z Z' : Prop} (G : GS g) (hb : b ≤ b') (R : RRM g h hm st c i b Z) (x : KFX c i (qT g c i) h h') (m : KFM c i (qT g c i) hm hm') (tm : TInv hm') (hs : ∃ s, h'.2 (152 + 12 * c + i) 7 = some s) (own : ∀ o j : Nat, o < qc g → o ≠ c → hm.1 254 j = Int32.ofNat o → hm'.1 254 j = Int32.ofNat o) (w : WTS h' hm' c i) (T : TRc g h' hm' (qT g c i) b') (O : OWN g h' hm' (qT g c i)) (z : Z') : RRM g h' hm' st c i b' Z' := by
  obtain ⟨⟨r1, r2, r3, r4, rT⟩, r5, r6, r7, r8, r9, r10, r11, -⟩ := R
  have c5 := G.c5 r7
  have i8 := G.i8 r7 r8
  have T6 := G.T6 r7 r8
  have q6 := G.1.1
  have f := x.1
  have X : KMX hm hm' := by
    refine ⟨by rw [m.k (by decide) (by decide) (by omega) (by omega)]; exact Int.le_refl _, fun j _ => ⟨?_, ?_, ?_⟩⟩
    · rw [m.k (by decide) (by decide) (by omega) (by omega)]
    · rw [m.k (by decide) (by decide) (by omega) (by omega)]
    · rw [m.k (by decide) (by decide) (by omega) (by omega)]
  have h40 : ∀ t : Nat, t < qt g → (hm.1 261 t).toInt ≤ 40 := fun t ht => (TI.rng rT 69 6 0 40 (by decide +kernel) (by decide) (by decide) (i := t) (by omega)).2
  refine ⟨⟨r1.fx G c5 i8 T6 x hs, r2.fm m, ?_, ?_, tm⟩, fun t ht => ?_, fun o ho hne => ?_, r7, r8, ?_, ?_, ?_, z⟩
  · rw [m.k (by decide) (by decide) (by omega) (by omega)]; exact r3
  · refine r4.fr ?_ (fun j => ?_) ?_ fun K j h1 h2 => ?_
    · exact f _ _ (by omega) (by omega) (by omega)
    · exact f _ _ (by omega) (by omega) (by omega)
    · exact m.k (by decide) (by decide) (by omega) (by omega)
    · exact m.k (by omega) (by omega) (by omega) (by omega)
  · by_cases e : t = qT g c i
    · rw [e]; exact ⟨T, O⟩
    · obtain ⟨q1, q2⟩ := r5 t ht
      refine ⟨q1.fr (h40 t ht) (by omega) ⟨fun j => ⟨?_, ?_, ?_, ?_⟩, fun K j hK h1 h2 => ?_, fun j h1 h2 => ?_, fun K hK => ?_, fun j h1 h2 => ?_⟩, q2.fr (fun j => ?_) (fun j h1 h2 => ?_)⟩
      · exact f _ _ (by omega) (by omega) (by omega)
      · exact f _ _ (by omega) (by omega) (by omega)
      · exact f _ _ (by omega) (by omega) (by omega)
      · exact f _ _ (by omega) (by omega) (by omega)
      · exact m.1 K j (by omega) (by omega) (by omega) (by omega) (by omega) (by omega) (by omega) (by omega) (by omega) (by omega)
      · exact m.1 _ j (by omega) (by omega) (by omega) (by omega) (by omega) (by omega) (by omega) (by omega) (by omega) (by omega)
      · exact m.1 _ _ (by omega) (by omega) (by omega) (by omega) (by omega) (by omega) (by omega) (by omega) (by omega) (by omega)
      · exact m.1 _ j (by omega) (by omega) (by omega) (by omega) (by omega) (by omega) (by omega) (by omega) (by omega) (by omega)
      · exact f _ _ (by omega) (by omega) (by omega)
      · exact m.1 _ j (by omega) (by omega) (by omega) (by omega) (by omega) (by omega) (by omega) (by omega) (by omega) (by omega)
  · have o5 := G.c5 ho
    refine (r6 o ho hne).fr ⟨fun r j h1 h2 => ⟨?_, ?_⟩, fun K h1 h2 => ?_, fun K j hK h1 h2 => ?_, fun K j h1 h2 h3 h4 => ?_, fun j => own o j ho hne⟩ X (G.m8 ho)
    · exact f _ _ (by omega) (by omega) (by omega)
    · exact x.2 _ _ (by omega) (by omega)
    · exact m.1 _ _ (by omega) (by omega) (by omega) (by omega) (by omega) (by omega) (by omega) (by omega) (by omega) (by omega)
    · exact m.1 _ _ (by omega) (by omega) (by omega) (by omega) (by omega) (by omega) (by omega) (by omega) (by omega) (by omega)
    · exact m.1 _ _ (by omega) (by omega) (by omega) (by omega) (by omega) (by omega) (by omega) (by omega) (by omega) (by omega)
  · refine r9.fk ⟨fun k => ?_, fun j k hj hk => ?_, fun j hj hk => ?_, ?_, fun K j h1 h2 hj hk => ?_, fun e => ?_⟩ X (G.m8 r7) fun _ => w
    · exact f _ _ (by omega) (by omega) (by omega)
    · exact f _ _ (by omega) (by omega) (by omega)
    · exact x.2 _ _ (by omega) (by omega)
    · exact m.k (by decide) (by decide) (by omega) (by omega)
    · exact m.k (by omega) (by omega) (by omega) (by omega)
    · omega
  · rw [m.k (by decide) (by decide) (by omega) (by omega), m.k (by decide) (by decide) (by omega) (by omega)]; exact r10
  · rw [m.k (by decide) (by decide) (by omega) (by omega)]; exact r11
