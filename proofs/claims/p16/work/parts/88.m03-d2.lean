
set_option maxRecDepth 20000
/-! THE REFERENCE'S PLAIN TRAY HAS A PICTURE -/
/-- the plain tray's cells alone are written -/
def FM (h h' : Hp) : Prop := (∀ r j : Nat, ¬ (278 ≤ r ∧ r ≤ 281) → ¬ (r = 223 ∧ (j = 68 ∨ j = 69)) → h'.1 r j = h.1 r j) ∧ h'.2 = h.2
theorem FM.refl (h : Hp) : FM h h := ⟨fun _ _ _ _ => rfl, rfl⟩
theorem FM.trans {a b c : Hp} (x : FM a b) (y : FM b c) : FM a c := ⟨fun r j z1 z2 => (y.1 r j z1 z2).trans (x.1 r j z1 z2), y.2.trans x.2⟩
theorem FM.set {h h' : Hp} (x : FM h h') {r j : Nat} {v : Int32} (hr : (278 ≤ r ∧ r ≤ 281) ∨ (r = 223 ∧ (j = 68 ∨ j = 69))) : FM h (fl_setI h' r j v) := ⟨fun r' j' z1 z2 => by
  rw [setI_no (fun y => by
    obtain ⟨y1, y2⟩ := y
    subst y1
    subst y2
    rcases hr with hr | hr
    · exact z1 hr
    · exact z2 hr)]
  exact x.1 r' j' z1 z2, x.2⟩
def bI : Option Int32 → Int32
  | some _ => Int32.ofInt 1
  | none => Int32.ofInt 0
def RAk (h : Hp) (f : KV) : Prop := ∀ j : Nat, j < 32 → h.1 278 j = bI (f j) ∧ ∀ v : Int32, f j = some v → h.1 279 j = v
def RAq (h : Hp) (l : List Int32) (n p : Nat) : Prop := h.1 223 68 = Int32.ofNat l.length ∧ l.length ≤ p ∧ (∀ j : Nat, j < l.length → l[j]? = some (h.1 280 j)) ∧ h.1 223 69 = (if 0 < n then Int32.ofInt 1 else Int32.ofInt 0) ∧ n ≤ p
def RAs (h : Hp) (g : Nat → Int32) : Prop := ∀ m : Nat, m < 4 → h.1 281 m = g m
theorem RAk.z0 {h : Hp} {f : KV} {k : Nat} (C : RAk h f) (k32 : k < 32) (e : f k = none) : (h.1 278 (Int32.ofNat k).toNatClampNeg).toInt = 0 := by
  rw [o32c (by omega), (C k k32).1, e]
  rfl
theorem RAk.z1 {h : Hp} {f : KV} {k : Nat} {v : Int32} (C : RAk h f) (k32 : k < 32) (e : f k = some v) : (h.1 278 (Int32.ofNat k).toNatClampNeg).toInt ≠ 0 ∧ h.1 279 (Int32.ofNat k).toNatClampNeg = v := by
  rw [o32c (by omega)]
  exact ⟨by rw [(C k k32).1, e]; exact (show (Int32.ofInt 1).toInt ≠ 0 by decide), (C k k32).2 v e⟩
theorem RAk.put {h : Hp} {f : KV} {k : Nat} {v : Int32} (k32 : k < 32) (C : RAk h f) : RAk (fl_setI (fl_setI h 278 (Int32.ofNat k).toNatClampNeg (Int32.ofInt 1)) 279 (Int32.ofNat k).toNatClampNeg v) (fset f k (some v)) := fun j hj => by
  rw [o32c (by omega)]
  by_cases z : j = k
  · subst z
    rw [fset_at, setI_at, setI_no (by omega), setI_at]
    exact ⟨rfl, fun w hw => by cases hw; rfl⟩
  · rw [fset_no z, setI_no (by omega), setI_no (by omega), setI_no (by omega), setI_no (by omega)]
    exact C j hj
theorem RAk.put2 {h : Hp} {f : KV} {k : Nat} {v : Int32} (k32 : k < 32) (C : RAk h f) : RAk (fl_setI (fl_setI h 279 (Int32.ofNat k).toNatClampNeg v) 278 (Int32.ofNat k).toNatClampNeg (Int32.ofInt 1)) (fset f k (some v)) := fun j hj => by
  rw [o32c (by omega)]
  by_cases z : j = k
  · subst z
    rw [fset_at, setI_at, setI_no (by omega), setI_at]
    exact ⟨rfl, fun w hw => by cases hw; rfl⟩
  · rw [fset_no z, setI_no (by omega), setI_no (by omega), setI_no (by omega), setI_no (by omega)]
    exact C j hj
theorem RAk.out {h : Hp} {f : KV} {k : Nat} {v : Int32} (k32 : k < 32) (C : RAk h f) : RAk (fl_setI (fl_setI h 278 (Int32.ofNat k).toNatClampNeg (Int32.ofInt 0)) 279 (Int32.ofNat k).toNatClampNeg v) (fset f k none) := fun j hj => by
  rw [o32c (by omega)]
  by_cases z : j = k
  · subst z
    rw [fset_at, setI_no (by omega), setI_at]
    exact ⟨rfl, fun w hw => by cases hw⟩
  · rw [fset_no z, setI_no (by omega), setI_no (by omega), setI_no (by omega), setI_no (by omega)]
    exact C j hj
theorem fset_self {f : KV} {k : Nat} {x : Option Int32} (e : f k = x) : fset f k x = f := by
  funext j
  by_cases z : j = k
  · rw [z, fset_at, e]
  · rw [fset_no z]
theorem okMap_k {op : Int} {a : Nat} {b how ans : Int32} {f : KV} (ho : op ≠ 3) : okMap op a b how ans f ↔ okKey a how ans f := by
  unfold okMap
  rw [if_neg ho]
theorem okMap_3 {op : Int} {a : Nat} {b how ans : Int32} {f : KV} (ho : op = 3) : okMap op a b how ans f ↔ (how.toInt = 0 ∧ ans.toInt = ((f a).getD (Int32.ofInt 0) + b).toInt) := by
  unfold okMap
  rw [if_pos ho]
theorem okKey_n {a : Nat} {how ans : Int32} {f : KV} (e : f a = none) : okKey a how ans f ↔ how.toInt = 1 := by
  unfold okKey
  rw [e]
theorem okKey_s {a : Nat} {how ans v : Int32} {f : KV} (e : f a = some v) : okKey a how ans f ↔ (how.toInt = 0 ∧ ans.toInt = v.toInt) := by
  unfold okKey
  rw [e]
theorem nxKey_0 {op : Int} {a : Nat} {b : Int32} {f : KV} (ho : op = 0) : nxKey op a b f = fset f a (some b) := if_pos ho
theorem nxKey_2 {op : Int} {a : Nat} {b : Int32} {f : KV} (ho : op = 2) : nxKey op a b f = fset f a none := by
  unfold nxKey
  rw [if_neg (by omega), if_pos ho]
theorem nxKey_1 {op : Int} {a : Nat} {b : Int32} {f : KV} (ho : op ≠ 0) (h2 : op ≠ 2) : nxKey op a b f = f := by
  unfold nxKey
  rw [if_neg ho, if_neg h2]
theorem nxMap_3 {op : Int} {a : Nat} {b ans : Int32} {f : KV} (ho : op = 3) : nxMap op a b ans f = fset f a (some ans) := if_pos ho
theorem nxMap_k {op : Int} {a : Nat} {b ans : Int32} {f : KV} (ho : op ≠ 3) : nxMap op a b ans f = nxKey op a b f := if_neg ho
theorem nxCop_k {op : Int} {a : Nat} {b : Int32} {f : KV} (ho : op ≠ 3) : nxCop op a b f = nxKey op a b f := if_neg ho

theorem r_map {d kk : Nat} {h : Hp} {x t op b how ans : Int32} {f : KV} {r : Option Value × Hp × Nat} (S : SH h.2) (HD : ADM h x op (Int32.ofNat kk) b how ans) (hk : (h.1 224 t.toNatClampNeg).toInt = 0) (ho : 0 ≤ op.toInt ∧ op.toInt ≤ 3) (k32 : kk < 32) (C : RAk h f) (e : Ev d 199 (0, [some (.ref 223), some (.int x), some (.int t), none, none, none, none, none, none, none, none], [], h, fl_tot) r) : ∃ (v : Int32) (h' : Hp), r = (some (.int v), h', fl_tot) ∧ FM h h' ∧ (v.toInt ≠ 0 ↔ okMap op.toInt kk b how ans f) ∧ (okMap op.toInt kk b how ans f → RAk h' (nxMap op.toInt kk b ans f)) := by
  have i0 : (Int32.ofInt 0).toInt = 0 := by decide
  have i1 : (Int32.ofInt 1).toInt = 1 := by decide
  cases hf : f kk with
  | none =>
    have Z := C.z0 k32 hf
    rcases zc_pl_map S HD hk e with ⟨q0, q1, q2, q3, q4, q5, w⟩ | ⟨q0, q1, q2, q3, q4, q5, w⟩ | ⟨q0, q1, q2, q3, q4, q5, w⟩ | ⟨q0, q1, q2, q3, q4, q5, q6, w⟩ | ⟨q0, q1, q2, q3, q4, q5, q6, w⟩ | ⟨q0, q1, q2, q3, q4, q5, q6, w⟩ | ⟨q0, q1, q2, q3, q4, q5, q6, w⟩ | ⟨q0, q1, q2, q3, q4, q5, q6, w⟩ | ⟨q0, q1, q2, q3, q4, q5, q6, q7, w⟩ | ⟨q0, q1, q2, q3, q4, q5, q6, q7, w⟩ | ⟨q0, q1, q2, q3, q4, q5, q6, q7, w⟩ | ⟨q0, q1, q2, q3, q4, q5, q6, q7, w⟩ | ⟨q0, q1, q2, q3, q4, q5, q6, q7, w⟩ | ⟨q0, q1, q2, q3, q4, q5, q6, q7, q8, w⟩ | ⟨q0, q1, q2, q3, q4, q5, q6, q7, q8, w⟩ | ⟨q0, q1, q2, q3, w⟩ | ⟨q0, q1, q2, q3, q4, w⟩ | ⟨q0, q1, q2, q3, q4, w⟩ | ⟨q0, q1, q2, q3, w⟩ | ⟨q0, q1, q2, q3, q4, w⟩ | ⟨q0, q1, q2, q3, q4, w⟩
    · have I : ((Int32.ofInt 0).toInt ≠ 0 ↔ okMap op.toInt kk b how ans f) := by
        rw [okMap_k (by omega), okKey_n hf]
        omega
      refine ⟨_, _, w, (FM.set (FM.set (FM.refl _) (by omega)) (by omega)), I, fun z => ?_⟩
      exact absurd (I.mpr z) (by decide)
    · have I : ((Int32.ofInt 1).toInt ≠ 0 ↔ okMap op.toInt kk b how ans f) := by
        rw [okMap_k (by omega), okKey_n hf]
        omega
      refine ⟨_, _, w, (FM.set (FM.set (FM.refl _) (by omega)) (by omega)), I, fun z => ?_⟩
      rw [nxMap_k (by omega)]
      rw [nxKey_0 (by omega)]
      exact C.put k32
    · exfalso; omega
    · exfalso; omega
    · exfalso; omega
    · have I : ((Int32.ofInt 0).toInt ≠ 0 ↔ okMap op.toInt kk b how ans f) := by
        rw [okMap_k (by omega), okKey_n hf]
        omega
      refine ⟨_, _, w, (FM.set (FM.set (FM.refl _) (by omega)) (by omega)), I, fun z => ?_⟩
      exact absurd (I.mpr z) (by decide)
    · have I : ((Int32.ofInt 1).toInt ≠ 0 ↔ okMap op.toInt kk b how ans f) := by
        rw [okMap_k (by omega), okKey_n hf]
        omega
      refine ⟨_, _, w, (FM.set (FM.set (FM.refl _) (by omega)) (by omega)), I, fun z => ?_⟩
      rw [nxMap_k (by omega)]
      rw [nxKey_2 (by omega)]
      exact C.out k32
    · exfalso; omega
    · exfalso; omega
    · exfalso; omega
    · have I : ((Int32.ofInt 0).toInt ≠ 0 ↔ okMap op.toInt kk b how ans f) := by
        rw [okMap_k (by omega), okKey_n hf]
        omega
      refine ⟨_, _, w, (FM.set (FM.set (FM.refl _) (by omega)) (by omega)), I, fun z => ?_⟩
      exact absurd (I.mpr z) (by decide)
    · have I : ((Int32.ofInt 1).toInt ≠ 0 ↔ okMap op.toInt kk b how ans f) := by
        rw [okMap_k (by omega), okKey_n hf]
        omega
      refine ⟨_, _, w, (FM.set (FM.set (FM.refl _) (by omega)) (by omega)), I, fun z => ?_⟩
      rw [nxMap_k (by omega)]
      rw [nxKey_1 (by omega) (by omega)]
      have c := C.out (v := h.1 279 (Int32.ofNat kk).toNatClampNeg) k32
      rw [fset_self hf] at c
      exact c
    · exfalso; omega
    · exfalso; omega
    · exfalso; omega
    · have I : ((Int32.ofInt 0).toInt ≠ 0 ↔ okMap op.toInt kk b how ans f) := by
        rw [okMap_3 (by omega), hf]
        dsimp only [Option.getD]
        omega
      refine ⟨_, _, w, (FM.set (FM.set (FM.refl _) (by omega)) (by omega)), I, fun z => ?_⟩
      exact absurd (I.mpr z) (by decide)
    · have I : ((Int32.ofInt 0).toInt ≠ 0 ↔ okMap op.toInt kk b how ans f) := by
        rw [okMap_3 (by omega), hf]
        dsimp only [Option.getD]
        omega
      refine ⟨_, _, w, (FM.set (FM.set (FM.refl _) (by omega)) (by omega)), I, fun z => ?_⟩
      exact absurd (I.mpr z) (by decide)
    · have I : ((Int32.ofInt 1).toInt ≠ 0 ↔ okMap op.toInt kk b how ans f) := by
        rw [okMap_3 (by omega), hf]
        dsimp only [Option.getD]
        omega
      refine ⟨_, _, w, (FM.set (FM.set (FM.refl _) (by omega)) (by omega)), I, fun z => ?_⟩
      rw [nxMap_3 (by omega)]
      rw [okMap_3 (by omega), hf] at z
      have ea : ans = _ := Int32.toInt_inj.mp z.2
      dsimp only [Option.getD] at ea
      rw [ea]
      exact C.put2 k32
    · exfalso; omega
    · exfalso; omega
    · exfalso; omega
  | some v =>
    obtain ⟨Z, V⟩ := C.z1 k32 hf
    rcases zc_pl_map S HD hk e with ⟨q0, q1, q2, q3, q4, q5, w⟩ | ⟨q0, q1, q2, q3, q4, q5, w⟩ | ⟨q0, q1, q2, q3, q4, q5, w⟩ | ⟨q0, q1, q2, q3, q4, q5, q6, w⟩ | ⟨q0, q1, q2, q3, q4, q5, q6, w⟩ | ⟨q0, q1, q2, q3, q4, q5, q6, w⟩ | ⟨q0, q1, q2, q3, q4, q5, q6, w⟩ | ⟨q0, q1, q2, q3, q4, q5, q6, w⟩ | ⟨q0, q1, q2, q3, q4, q5, q6, q7, w⟩ | ⟨q0, q1, q2, q3, q4, q5, q6, q7, w⟩ | ⟨q0, q1, q2, q3, q4, q5, q6, q7, w⟩ | ⟨q0, q1, q2, q3, q4, q5, q6, q7, w⟩ | ⟨q0, q1, q2, q3, q4, q5, q6, q7, w⟩ | ⟨q0, q1, q2, q3, q4, q5, q6, q7, q8, w⟩ | ⟨q0, q1, q2, q3, q4, q5, q6, q7, q8, w⟩ | ⟨q0, q1, q2, q3, w⟩ | ⟨q0, q1, q2, q3, q4, w⟩ | ⟨q0, q1, q2, q3, q4, w⟩ | ⟨q0, q1, q2, q3, w⟩ | ⟨q0, q1, q2, q3, q4, w⟩ | ⟨q0, q1, q2, q3, q4, w⟩
    · exfalso; omega
    · exfalso; omega
    · have I : ((Int32.ofInt 0).toInt ≠ 0 ↔ okMap op.toInt kk b how ans f) := by
        rw [okMap_k (by omega), okKey_s hf]
        rw [← V]
        omega
      refine ⟨_, _, w, (FM.set (FM.set (FM.refl _) (by omega)) (by omega)), I, fun z => ?_⟩
      exact absurd (I.mpr z) (by decide)
    · have I : ((Int32.ofInt 0).toInt ≠ 0 ↔ okMap op.toInt kk b how ans f) := by
        rw [okMap_k (by omega), okKey_s hf]
        rw [← V]
        omega
      refine ⟨_, _, w, (FM.set (FM.set (FM.refl _) (by omega)) (by omega)), I, fun z => ?_⟩
      exact absurd (I.mpr z) (by decide)
    · have I : ((Int32.ofInt 1).toInt ≠ 0 ↔ okMap op.toInt kk b how ans f) := by
        rw [okMap_k (by omega), okKey_s hf]
        rw [← V]
        omega
      refine ⟨_, _, w, (FM.set (FM.set (FM.refl _) (by omega)) (by omega)), I, fun z => ?_⟩
      rw [nxMap_k (by omega)]
      rw [nxKey_0 (by omega)]
      exact C.put k32
    · exfalso; omega
    · exfalso; omega
    · have I : ((Int32.ofInt 0).toInt ≠ 0 ↔ okMap op.toInt kk b how ans f) := by
        rw [okMap_k (by omega), okKey_s hf]
        rw [← V]
        omega
      refine ⟨_, _, w, (FM.set (FM.set (FM.refl _) (by omega)) (by omega)), I, fun z => ?_⟩
      exact absurd (I.mpr z) (by decide)
    · have I : ((Int32.ofInt 0).toInt ≠ 0 ↔ okMap op.toInt kk b how ans f) := by
        rw [okMap_k (by omega), okKey_s hf]
        rw [← V]
        omega
      refine ⟨_, _, w, (FM.set (FM.set (FM.refl _) (by omega)) (by omega)), I, fun z => ?_⟩
      exact absurd (I.mpr z) (by decide)
    · have I : ((Int32.ofInt 1).toInt ≠ 0 ↔ okMap op.toInt kk b how ans f) := by
        rw [okMap_k (by omega), okKey_s hf]
        rw [← V]
        omega
      refine ⟨_, _, w, (FM.set (FM.set (FM.refl _) (by omega)) (by omega)), I, fun z => ?_⟩
      rw [nxMap_k (by omega)]
      rw [nxKey_2 (by omega)]
      exact C.out k32
    · exfalso; omega
    · exfalso; omega
    · have I : ((Int32.ofInt 0).toInt ≠ 0 ↔ okMap op.toInt kk b how ans f) := by
        rw [okMap_k (by omega), okKey_s hf]
        rw [← V]
        omega
      refine ⟨_, _, w, (FM.set (FM.set (FM.refl _) (by omega)) (by omega)), I, fun z => ?_⟩
      exact absurd (I.mpr z) (by decide)
    · have I : ((Int32.ofInt 0).toInt ≠ 0 ↔ okMap op.toInt kk b how ans f) := by
        rw [okMap_k (by omega), okKey_s hf]
        rw [← V]
        omega
      refine ⟨_, _, w, (FM.set (FM.set (FM.refl _) (by omega)) (by omega)), I, fun z => ?_⟩
      exact absurd (I.mpr z) (by decide)
    · have I : ((Int32.ofInt 1).toInt ≠ 0 ↔ okMap op.toInt kk b how ans f) := by
        rw [okMap_k (by omega), okKey_s hf]
        rw [← V]
        omega
      refine ⟨_, _, w, (FM.set (FM.set (FM.refl _) (by omega)) (by omega)), I, fun z => ?_⟩
      rw [nxMap_k (by omega)]
      rw [nxKey_1 (by omega) (by omega)]
      have c := C.put (v := h.1 279 (Int32.ofNat kk).toNatClampNeg) k32
      rw [fset_self (by rw [hf, V])] at c
      exact c
    · exfalso; omega
    · exfalso; omega
    · exfalso; omega
    · have I : ((Int32.ofInt 0).toInt ≠ 0 ↔ okMap op.toInt kk b how ans f) := by
        rw [okMap_3 (by omega), hf]
        dsimp only [Option.getD]
        rw [← V]
        omega
      refine ⟨_, _, w, (FM.set (FM.set (FM.refl _) (by omega)) (by omega)), I, fun z => ?_⟩
      exact absurd (I.mpr z) (by decide)
    · have I : ((Int32.ofInt 0).toInt ≠ 0 ↔ okMap op.toInt kk b how ans f) := by
        rw [okMap_3 (by omega), hf]
        dsimp only [Option.getD]
        rw [← V]
        omega
      refine ⟨_, _, w, (FM.set (FM.set (FM.refl _) (by omega)) (by omega)), I, fun z => ?_⟩
      exact absurd (I.mpr z) (by decide)
    · have I : ((Int32.ofInt 1).toInt ≠ 0 ↔ okMap op.toInt kk b how ans f) := by
        rw [okMap_3 (by omega), hf]
        dsimp only [Option.getD]
        rw [← V]
        omega
      refine ⟨_, _, w, (FM.set (FM.set (FM.refl _) (by omega)) (by omega)), I, fun z => ?_⟩
      rw [nxMap_3 (by omega)]
      rw [okMap_3 (by omega), hf] at z
      have ea : ans = _ := Int32.toInt_inj.mp z.2
      dsimp only [Option.getD] at ea
      rw [ea, ← V]
      exact C.put2 k32

theorem zc_sum {d : Nat} {h : Hp} {x t op a how ans : Int32} {f : KV} {r : Option Value × Hp × Nat} (S : SH h.2) (C : RAk h f) : ∀ (n k : Nat), k ≤ 32 → 32 - k < n → Ev d 199 (410, [some (.ref 223), some (.int x), some (.int t), some (.int op), some (.int a), some (.int how), some (.int ans), none, some (.int (wsf f k)), none, some (.int (Int32.ofNat k))], [], h, fl_tot) r → Ev d 199 (454, [some (.ref 223), some (.int x), some (.int t), some (.int op), some (.int a), some (.int how), some (.int ans), none, some (.int (wsf f 32)), none, some (.int (Int32.ofNat 32))], [], h, fl_tot) r
  | 0, k, hk, hn, e => by omega
  | n + 1, k, hk, hn, e => by
    have ek := i32n (n := k) (by omega)
    have ekn : (Int32.ofNat k).toNatClampNeg = k := o32c (by omega)
    rcases zc_pl_c S e with ⟨q0, e⟩ | ⟨q0, q1, e⟩ | ⟨q0, q1, e⟩
    · have k1 : k = 32 := by omega
      subst k1
      exact e
    · have e := zc_pl_ci S e
      rw [o32 (by omega)] at e
      rw [ekn] at q1
      have hf : f k = none := by
        cases y : f k with
        | none => rfl
        | some v =>
          rw [(C k (by omega)).1, y] at q1
          exact absurd q1 (show (Int32.ofInt 1).toInt ≠ 0 by decide)
      have ew : wsf f (k + 1) = wsf f k := by
        show (match f k with | some v => wsf f k + (Int32.ofNat k + Int32.ofInt 1) * v | none => wsf f k) = _
        rw [hf]
      have e0 : wsf f k + Int32.ofInt 0 = wsf f k := Int32.add_zero _
      rw [e0, ← ew] at e
      exact zc_sum S C n (k + 1) (by omega) (by omega) e
    · have e := zc_pl_ci S e
      rw [ekn] at q1 e
      have hs : ∃ v, f k = some v := by
        cases y : f k with
        | none =>
          rw [(C k (by omega)).1, y] at q1
          exact absurd rfl q1
        | some v => exact ⟨v, rfl⟩
      obtain ⟨v, hf⟩ := hs
      have hv := (C k (by omega)).2 v hf
      have ew : wsf f (k + 1) = wsf f k + (Int32.ofNat k + Int32.ofInt 1) * v := by
        show (match f k with | some v => wsf f k + (Int32.ofNat k + Int32.ofInt 1) * v | none => wsf f k) = _
        rw [hf]
      rw [hv, ← ew, o32 (by omega)] at e
      exact zc_sum S C n (k + 1) (by omega) (by omega) e

theorem r_copies {d kk : Nat} {h : Hp} {x t op a b how ans : Int32} {f : KV} {r : Option Value × Hp × Nat} (S : SH h.2) (HD : ADM h x op a b how ans) (ka : op.toInt ≠ 3 → a = Int32.ofNat kk) (hk : (h.1 224 t.toNatClampNeg).toInt = 4) (ho : 0 ≤ op.toInt ∧ op.toInt ≤ 3) (k32 : op.toInt ≠ 3 → kk < 32) (C : RAk h f) (e : Ev d 199 (0, [some (.ref 223), some (.int x), some (.int t), none, none, none, none, none, none, none, none], [], h, fl_tot) r) : ∃ (v : Int32) (h' : Hp), r = (some (.int v), h', fl_tot) ∧ FM h h' ∧ (v.toInt ≠ 0 ↔ okCop op.toInt kk how ans f) ∧ (okCop op.toInt kk how ans f → RAk h' (nxCop op.toInt kk b f)) := by
  have i0 : (Int32.ofInt 0).toInt = 0 := by decide
  have i1 : (Int32.ofInt 1).toInt = 1 := by decide
  by_cases ho3 : op.toInt = 3
  · have EO : okCop op.toInt kk how ans f ↔ (how.toInt = 0 ∧ ans.toInt = (wsf f 32).toInt) := by
      unfold okCop
      rw [if_pos ho3]
    have EN : nxCop op.toInt kk b f = f := if_pos ho3
    rw [EO, EN]
    rcases zc_pl_copies S HD hk e with ⟨q0, q1, q2, q3, q4, q5, q6, q7, q8, q9, e⟩ | ⟨q0, q1, q2, q3, q4, q5, q6, q7, q8, q9, e⟩ | ⟨q0, q1, q2, q3, q4, q5, q6, q7, q8, q9, e⟩ | ⟨q0, q1, q2, q3, q4, q5, q6, q7, q8, q9, q10, e⟩ | ⟨q0, q1, q2, q3, q4, q5, q6, q7, q8, q9, q10, e⟩ | ⟨q0, q1, q2, q3, q4, q5, q6, q7, q8, q9, q10, e⟩ | ⟨q0, q1, q2, q3, q4, q5, q6, q7, q8, q9, q10, e⟩ | ⟨q0, q1, q2, q3, q4, q5, q6, q7, q8, q9, q10, e⟩ | ⟨q0, q1, q2, q3, q4, q5, q6, q7, q8, q9, q10, q11, e⟩ | ⟨q0, q1, q2, q3, q4, q5, q6, q7, q8, q9, q10, q11, e⟩ | ⟨q0, q1, q2, q3, q4, q5, q6, q7, q8, q9, q10, q11, e⟩ | ⟨q0, q1, q2, q3, q4, q5, q6, q7, q8, q9, q10, q11, e⟩ | ⟨q0, q1, q2, q3, q4, q5, q6, q7, q8, q9, q10, q11, e⟩ | ⟨q0, q1, q2, q3, q4, q5, q6, q7, q8, q9, q10, q11, q12, e⟩ | ⟨q0, q1, q2, q3, q4, q5, q6, q7, q8, q9, q10, q11, q12, e⟩ | ⟨q0, q1, q2, q3, q4, q5, e⟩
    · exfalso; omega
    · exfalso; omega
    · exfalso; omega
    · exfalso; omega
    · exfalso; omega
    · exfalso; omega
    · exfalso; omega
    · exfalso; omega
    · exfalso; omega
    · exfalso; omega
    · exfalso; omega
    · exfalso; omega
    · exfalso; omega
    · exfalso; omega
    · exfalso; omega
    · have e := zc_sum S C 33 0 (by omega) (by omega) e
      rcases zc_pl_cx S e with ⟨y0, w⟩ | ⟨y0, y1, w⟩ | ⟨y0, y1, w⟩
      · exact ⟨_, _, w, FM.refl _, by omega, fun _ => C⟩
      · exact ⟨_, _, w, FM.refl _, by omega, fun _ => C⟩
      · exact ⟨_, _, w, FM.refl _, by omega, fun _ => C⟩
  · have k32 := k32 ho3
    have ea_ := ka ho3
    subst ea_
    have EO : okCop op.toInt kk how ans f ↔ okKey kk how ans f := by
      unfold okCop
      rw [if_neg ho3]
    rw [EO]
    cases hf : f kk with
    | none =>
      have Z := C.z0 k32 hf
      rcases zc_pl_copies S HD hk e with ⟨q0, q1, q2, q3, q4, q5, q6, q7, q8, q9, w⟩ | ⟨q0, q1, q2, q3, q4, q5, q6, q7, q8, q9, w⟩ | ⟨q0, q1, q2, q3, q4, q5, q6, q7, q8, q9, w⟩ | ⟨q0, q1, q2, q3, q4, q5, q6, q7, q8, q9, q10, w⟩ | ⟨q0, q1, q2, q3, q4, q5, q6, q7, q8, q9, q10, w⟩ | ⟨q0, q1, q2, q3, q4, q5, q6, q7, q8, q9, q10, w⟩ | ⟨q0, q1, q2, q3, q4, q5, q6, q7, q8, q9, q10, w⟩ | ⟨q0, q1, q2, q3, q4, q5, q6, q7, q8, q9, q10, w⟩ | ⟨q0, q1, q2, q3, q4, q5, q6, q7, q8, q9, q10, q11, w⟩ | ⟨q0, q1, q2, q3, q4, q5, q6, q7, q8, q9, q10, q11, w⟩ | ⟨q0, q1, q2, q3, q4, q5, q6, q7, q8, q9, q10, q11, w⟩ | ⟨q0, q1, q2, q3, q4, q5, q6, q7, q8, q9, q10, q11, w⟩ | ⟨q0, q1, q2, q3, q4, q5, q6, q7, q8, q9, q10, q11, w⟩ | ⟨q0, q1, q2, q3, q4, q5, q6, q7, q8, q9, q10, q11, q12, w⟩ | ⟨q0, q1, q2, q3, q4, q5, q6, q7, q8, q9, q10, q11, q12, w⟩ | ⟨q0, q1, q2, q3, q4, q5, w⟩
      · have I : ((Int32.ofInt 0).toInt ≠ 0 ↔ okKey kk how ans f) := by
          rw [okKey_n hf]
          omega
        refine ⟨_, _, w, (FM.set (FM.set (FM.refl _) (by omega)) (by omega)), I, fun z => ?_⟩
        exact absurd (I.mpr z) (by decide)
      · have I : ((Int32.ofInt 1).toInt ≠ 0 ↔ okKey kk how ans f) := by
          rw [okKey_n hf]
          omega
        refine ⟨_, _, w, (FM.set (FM.set (FM.refl _) (by omega)) (by omega)), I, fun z => ?_⟩
        rw [nxCop_k (by omega)]
        rw [nxKey_0 (by omega)]
        exact C.put k32
      · exfalso; omega
      · exfalso; omega
      · exfalso; omega
      · have I : ((Int32.ofInt 0).toInt ≠ 0 ↔ okKey kk how ans f) := by
          rw [okKey_n hf]
          omega
        refine ⟨_, _, w, (FM.set (FM.set (FM.refl _) (by omega)) (by omega)), I, fun z => ?_⟩
        exact absurd (I.mpr z) (by decide)
      · have I : ((Int32.ofInt 1).toInt ≠ 0 ↔ okKey kk how ans f) := by
          rw [okKey_n hf]
          omega
        refine ⟨_, _, w, (FM.set (FM.set (FM.refl _) (by omega)) (by omega)), I, fun z => ?_⟩
        rw [nxCop_k (by omega)]
        rw [nxKey_2 (by omega)]
        exact C.out k32
      · exfalso; omega
      · exfalso; omega
      · exfalso; omega
      · have I : ((Int32.ofInt 0).toInt ≠ 0 ↔ okKey kk how ans f) := by
          rw [okKey_n hf]
          omega
        refine ⟨_, _, w, (FM.set (FM.set (FM.refl _) (by omega)) (by omega)), I, fun z => ?_⟩
        exact absurd (I.mpr z) (by decide)
      · have I : ((Int32.ofInt 1).toInt ≠ 0 ↔ okKey kk how ans f) := by
          rw [okKey_n hf]
          omega
        refine ⟨_, _, w, (FM.set (FM.set (FM.refl _) (by omega)) (by omega)), I, fun z => ?_⟩
        rw [nxCop_k (by omega)]
        rw [nxKey_1 (by omega) (by omega)]
        have c := C.out (v := h.1 279 (Int32.ofNat kk).toNatClampNeg) k32
        rw [fset_self hf] at c
        exact c
      · exfalso; omega
      · exfalso; omega
      · exfalso; omega
      · exfalso; omega
    | some v =>
      obtain ⟨Z, V⟩ := C.z1 k32 hf
      rcases zc_pl_copies S HD hk e with ⟨q0, q1, q2, q3, q4, q5, q6, q7, q8, q9, w⟩ | ⟨q0, q1, q2, q3, q4, q5, q6, q7, q8, q9, w⟩ | ⟨q0, q1, q2, q3, q4, q5, q6, q7, q8, q9, w⟩ | ⟨q0, q1, q2, q3, q4, q5, q6, q7, q8, q9, q10, w⟩ | ⟨q0, q1, q2, q3, q4, q5, q6, q7, q8, q9, q10, w⟩ | ⟨q0, q1, q2, q3, q4, q5, q6, q7, q8, q9, q10, w⟩ | ⟨q0, q1, q2, q3, q4, q5, q6, q7, q8, q9, q10, w⟩ | ⟨q0, q1, q2, q3, q4, q5, q6, q7, q8, q9, q10, w⟩ | ⟨q0, q1, q2, q3, q4, q5, q6, q7, q8, q9, q10, q11, w⟩ | ⟨q0, q1, q2, q3, q4, q5, q6, q7, q8, q9, q10, q11, w⟩ | ⟨q0, q1, q2, q3, q4, q5, q6, q7, q8, q9, q10, q11, w⟩ | ⟨q0, q1, q2, q3, q4, q5, q6, q7, q8, q9, q10, q11, w⟩ | ⟨q0, q1, q2, q3, q4, q5, q6, q7, q8, q9, q10, q11, w⟩ | ⟨q0, q1, q2, q3, q4, q5, q6, q7, q8, q9, q10, q11, q12, w⟩ | ⟨q0, q1, q2, q3, q4, q5, q6, q7, q8, q9, q10, q11, q12, w⟩ | ⟨q0, q1, q2, q3, q4, q5, w⟩
      · exfalso; omega
      · exfalso; omega
      · have I : ((Int32.ofInt 0).toInt ≠ 0 ↔ okKey kk how ans f) := by
          rw [okKey_s hf]
          rw [← V]
          omega
        refine ⟨_, _, w, (FM.set (FM.set (FM.refl _) (by omega)) (by omega)), I, fun z => ?_⟩
        exact absurd (I.mpr z) (by decide)
      · have I : ((Int32.ofInt 0).toInt ≠ 0 ↔ okKey kk how ans f) := by
          rw [okKey_s hf]
          rw [← V]
          omega
        refine ⟨_, _, w, (FM.set (FM.set (FM.refl _) (by omega)) (by omega)), I, fun z => ?_⟩
        exact absurd (I.mpr z) (by decide)
      · have I : ((Int32.ofInt 1).toInt ≠ 0 ↔ okKey kk how ans f) := by
          rw [okKey_s hf]
          rw [← V]
          omega
        refine ⟨_, _, w, (FM.set (FM.set (FM.refl _) (by omega)) (by omega)), I, fun z => ?_⟩
        rw [nxCop_k (by omega)]
        rw [nxKey_0 (by omega)]
        exact C.put k32
      · exfalso; omega
      · exfalso; omega
      · have I : ((Int32.ofInt 0).toInt ≠ 0 ↔ okKey kk how ans f) := by
          rw [okKey_s hf]
          rw [← V]
          omega
        refine ⟨_, _, w, (FM.set (FM.set (FM.refl _) (by omega)) (by omega)), I, fun z => ?_⟩
        exact absurd (I.mpr z) (by decide)
      · have I : ((Int32.ofInt 0).toInt ≠ 0 ↔ okKey kk how ans f) := by
          rw [okKey_s hf]
          rw [← V]
          omega
        refine ⟨_, _, w, (FM.set (FM.set (FM.refl _) (by omega)) (by omega)), I, fun z => ?_⟩
        exact absurd (I.mpr z) (by decide)
      · have I : ((Int32.ofInt 1).toInt ≠ 0 ↔ okKey kk how ans f) := by
          rw [okKey_s hf]
          rw [← V]
          omega
        refine ⟨_, _, w, (FM.set (FM.set (FM.refl _) (by omega)) (by omega)), I, fun z => ?_⟩
        rw [nxCop_k (by omega)]
        rw [nxKey_2 (by omega)]
        exact C.out k32
      · exfalso; omega
      · exfalso; omega
      · have I : ((Int32.ofInt 0).toInt ≠ 0 ↔ okKey kk how ans f) := by
          rw [okKey_s hf]
          rw [← V]
          omega
        refine ⟨_, _, w, (FM.set (FM.set (FM.refl _) (by omega)) (by omega)), I, fun z => ?_⟩
        exact absurd (I.mpr z) (by decide)
      · have I : ((Int32.ofInt 0).toInt ≠ 0 ↔ okKey kk how ans f) := by
          rw [okKey_s hf]
          rw [← V]
          omega
        refine ⟨_, _, w, (FM.set (FM.set (FM.refl _) (by omega)) (by omega)), I, fun z => ?_⟩
        exact absurd (I.mpr z) (by decide)
      · have I : ((Int32.ofInt 1).toInt ≠ 0 ↔ okKey kk how ans f) := by
          rw [okKey_s hf]
          rw [← V]
          omega
        refine ⟨_, _, w, (FM.set (FM.set (FM.refl _) (by omega)) (by omega)), I, fun z => ?_⟩
        rw [nxCop_k (by omega)]
        rw [nxKey_1 (by omega) (by omega)]
        have c := C.put (v := h.1 279 (Int32.ofNat kk).toNatClampNeg) k32
        rw [fset_self (by rw [hf, V])] at c
        exact c
      · exfalso; omega

theorem r_once {d kk : Nat} {h : Hp} {x t op own b how ans : Int32} {f : KV} {r : Option Value × Hp × Nat} (S : SH h.2) (HD : ADM h x op (Int32.ofNat kk) b how ans) (hk : (h.1 224 t.toNatClampNeg).toInt = 5) (ho : 0 ≤ op.toInt ∧ op.toInt ≤ 3) (k32 : kk < 32) (h5 : how.toInt = 0 ∨ how.toInt = 3) (ow : (((Int32.ofInt 1000) * ((x / (Int32.ofInt 8)) + (Int32.ofInt 1))) + (x - x / (Int32.ofInt 8) * (Int32.ofInt 8))) = own) (C : RAk h f) (e : Ev d 199 (0, [some (.ref 223), some (.int x), some (.int t), none, none, none, none, none, none, none, none], [], h, fl_tot) r) : ∃ (v : Int32) (h' : Hp), r = (some (.int v), h', fl_tot) ∧ FM h h' ∧ (v.toInt ≠ 0 ↔ okOnc kk how ans own f) ∧ (okOnc kk how ans own f → RAk h' (nxOnc kk how ans f)) := by
  have i0 : (Int32.ofInt 0).toInt = 0 := by decide
  have i1 : (Int32.ofInt 1).toInt = 1 := by decide
  subst ow
  cases hf : f kk with
  | none =>
    have Z := C.z0 k32 hf
    have EO : okOnc kk how ans (((Int32.ofInt 1000) * ((x / (Int32.ofInt 8)) + (Int32.ofInt 1))) + (x - x / (Int32.ofInt 8) * (Int32.ofInt 8))) f ↔ (how.toInt = 3 ∨ (how.toInt = 0 ∧ ans.toInt = ((((Int32.ofInt 1000) * ((x / (Int32.ofInt 8)) + (Int32.ofInt 1))) + (x - x / (Int32.ofInt 8) * (Int32.ofInt 8)))).toInt)) := by
      unfold okOnc
      rw [hf]
    rw [EO]
    rcases zc_pl_once S HD hk e with ⟨q0, q1, q2, q3, q4, q5, q6, q7, w⟩ | ⟨q0, q1, q2, q3, q4, q5, q6, q7, q8, w⟩ | ⟨q0, q1, q2, q3, q4, q5, q6, q7, q8, w⟩ | ⟨q0, q1, q2, q3, q4, q5, q6, q7, w⟩ | ⟨q0, q1, q2, q3, q4, q5, q6, q7, w⟩ | ⟨q0, q1, q2, q3, q4, q5, q6, w⟩ | ⟨q0, q1, q2, q3, q4, q5, q6, w⟩
    · refine ⟨_, _, w, (FM.refl _), by omega, fun z => ?_⟩
      exfalso
      omega
    · exfalso; omega
    · exfalso; omega
    · exfalso; omega
    · refine ⟨_, _, w, (FM.set (FM.set (FM.refl _) (by omega)) (by omega)), by omega, fun z => ?_⟩
      unfold nxOnc
      rw [if_pos (by omega)]
      exact C.put k32
    · exfalso; omega
    · refine ⟨_, _, w, (FM.refl _), by omega, fun z => ?_⟩
      unfold nxOnc
      rw [if_neg (by omega)]
      exact C
  | some v =>
    obtain ⟨Z, V⟩ := C.z1 k32 hf
    have EO : okOnc kk how ans (((Int32.ofInt 1000) * ((x / (Int32.ofInt 8)) + (Int32.ofInt 1))) + (x - x / (Int32.ofInt 8) * (Int32.ofInt 8))) f ↔ (how.toInt = 0 ∧ ans.toInt ≠ ((((Int32.ofInt 1000) * ((x / (Int32.ofInt 8)) + (Int32.ofInt 1))) + (x - x / (Int32.ofInt 8) * (Int32.ofInt 8)))).toInt ∧ ans.toInt = v.toInt) := by
      unfold okOnc
      rw [hf]
    rw [EO]
    rcases zc_pl_once S HD hk e with ⟨q0, q1, q2, q3, q4, q5, q6, q7, w⟩ | ⟨q0, q1, q2, q3, q4, q5, q6, q7, q8, w⟩ | ⟨q0, q1, q2, q3, q4, q5, q6, q7, q8, w⟩ | ⟨q0, q1, q2, q3, q4, q5, q6, q7, w⟩ | ⟨q0, q1, q2, q3, q4, q5, q6, q7, w⟩ | ⟨q0, q1, q2, q3, q4, q5, q6, w⟩ | ⟨q0, q1, q2, q3, q4, q5, q6, w⟩
    · exfalso; omega
    · refine ⟨_, _, w, (FM.refl _), by rw [← V]; omega, fun z => ?_⟩
      exfalso
      rw [← V] at z
      omega
    · refine ⟨_, _, w, (FM.refl _), by rw [← V]; omega, fun z => ?_⟩
      have ea : ans = v := Int32.toInt_inj.mp z.2.2
      unfold nxOnc
      rw [if_pos (by omega), ea, fset_self hf]
      exact C
    · refine ⟨_, _, w, (FM.set (FM.set (FM.refl _) (by omega)) (by omega)), by rw [← V]; omega, fun z => ?_⟩
      exfalso
      rw [← V] at z
      omega
    · exfalso; omega
    · refine ⟨_, _, w, (FM.refl _), by rw [← V]; omega, fun z => ?_⟩
      exfalso
      rw [← V] at z
      omega
    · exfalso; omega

theorem RAs.put {h : Hp} {g : Nat → Int32} {m : Nat} {v : Int32} (C : RAs h g) : RAs (fl_setI h 281 m v) (gset g m v) := fun j hj => by
  by_cases z : j = m
  · rw [z, setI_at, gset_at]
  · rw [setI_no (by omega), gset_no z]
    exact C j hj
theorem r_counter {d m : Nat} {h : Hp} {x t op a b how ans : Int32} {g : Nat → Int32} {r : Option Value × Hp × Nat} (S : SH h.2) (HD : ADM h x op a b how ans) (hk : (h.1 224 t.toNatClampNeg).toInt = 3) (ho : 0 ≤ op.toInt ∧ op.toInt ≤ 1) (m4 : m < 4) (xm : ((x / (Int32.ofInt 8)) - (x / (Int32.ofInt 8)) / (Int32.ofInt 4) * (Int32.ofInt 4)).toNatClampNeg = m) (C : RAs h g) (e : Ev d 199 (0, [some (.ref 223), some (.int x), some (.int t), none, none, none, none, none, none, none, none], [], h, fl_tot) r) : ∃ (v : Int32) (h' : Hp), r = (some (.int v), h', fl_tot) ∧ FM h h' ∧ (v.toInt ≠ 0 ↔ okC op.toInt m a how ans g) ∧ (okC op.toInt m a how ans g → RAs h' (nxC op.toInt m ans g)) := by
  have i0 : (Int32.ofInt 0).toInt = 0 := by decide
  have i1 : (Int32.ofInt 1).toInt = 1 := by decide
  have C0 := C 0 (by decide)
  have C1 := C 1 (by decide)
  have C2 := C 2 (by decide)
  have C3 := C 3 (by decide)
  rcases zc_pl_counter S HD hk e with ⟨y0, y1, y2, y3, y4, e⟩ | ⟨y0, y1, y2, y3, y4, e⟩
  · rw [xm] at e
    have EO : okC op.toInt m a how ans g ↔ (how.toInt = 0 ∧ ans.toInt = (g 0 + g 1 + g 2 + g 3).toInt) := by
      unfold okC
      rw [if_pos (show op.toInt = 1 by omega)]
    have EN : nxC op.toInt m ans g = g := if_pos (show op.toInt = 1 by omega)
    have e0 : h.1 281 m + Int32.ofInt 0 = h.1 281 m := Int32.add_zero _
    rw [e0] at e
    have C' : RAs (fl_setI h 281 m (h.1 281 m)) g := fun j hj => by
      by_cases z : j = m
      · rw [z, setI_at]; exact C m m4
      · rw [setI_no (by omega)]; exact C j hj
    have F : FM h (fl_setI h 281 m (h.1 281 m)) := (FM.refl _).set (by omega)
    rw [EO, EN, ← C' 0 (by decide), ← C' 1 (by decide), ← C' 2 (by decide), ← C' 3 (by decide)]
    rcases zc_pl_s2 (h := fl_setI h 281 m (h.1 281 m)) S e with ⟨q0, w⟩ | ⟨q0, q1, q2, w⟩ | ⟨q0, q1, q2, w⟩ | ⟨q0, q1, q2, w⟩ | ⟨q0, q1, q2, w⟩
    · exact ⟨_, _, w, F, by omega, fun _ => C'⟩
    · exact ⟨_, _, w, F, by omega, fun _ => C'⟩
    · exact ⟨_, _, w, F, by omega, fun _ => C'⟩
    · exfalso; omega
    · exfalso; omega
  · rw [xm] at e
    have EO : okC op.toInt m a how ans g ↔ (how.toInt = 0 ∧ ans.toInt = (g m + a).toInt) := by
      unfold okC
      rw [if_neg (show ¬ op.toInt = 1 by omega)]
    have EN : nxC op.toInt m ans g = gset g m ans := if_neg (show ¬ op.toInt = 1 by omega)
    rw [EO, EN, ← C m m4]
    have F : FM h (fl_setI h 281 m (h.1 281 m + a)) := (FM.refl _).set (by omega)
    rcases zc_pl_s2 (h := fl_setI h 281 m (h.1 281 m + a)) S e with ⟨q0, w⟩ | ⟨q0, q1, q2, w⟩ | ⟨q0, q1, q2, w⟩ | ⟨q0, q1, q2, w⟩ | ⟨q0, q1, q2, w⟩
    · exact ⟨_, _, w, F, by omega, fun z => by omega⟩
    · exfalso; omega
    · exfalso; omega
    · rw [xm, setI_at] at q2
      exact ⟨_, _, w, F, by omega, fun z => by omega⟩
    · rw [xm, setI_at] at q2
      refine ⟨_, _, w, F, by omega, fun z => ?_⟩
      have ea : ans = h.1 281 m + a := Int32.toInt_inj.mp q2
      rw [ea]
      exact C.put

theorem RAq.ln {h : Hp} {l : List Int32} {n p : Nat} (C : RAq h l n p) (hp : p ≤ 12) : (h.1 223 68).toInt = l.length ∧ (h.1 223 69).toInt = (if 0 < n then 1 else 0) := by
  obtain ⟨c1, c2, c3, c4, c5⟩ := C
  rw [c1, c4, i32n (by omega)]
  refine ⟨rfl, ?_⟩
  split <;> rfl
theorem zc_pt_loop {d L : Nat} {h0 : Hp} {r : Option Value × Hp × Nat} (e68 : h0.1 223 68 = Int32.ofNat L) (L12 : L ≤ 12) (S0 : SH h0.2) : ∀ (n k : Nat) (h : Hp), k + 1 ≤ L → L - k < n → FM h0 h → h.1 223 68 = h0.1 223 68 → h.1 223 69 = h0.1 223 69 → (∀ j : Nat, h.1 280 j = if j < k then h0.1 280 (j + 1) else h0.1 280 j) → Ev d 201 (2, [some (.ref 223), some (.int (Int32.ofInt 1)), some (.int (Int32.ofNat (k + 1)))], [], h, fl_tot) r → ∃ h', r = (none, h', fl_tot) ∧ FM h0 h' ∧ h'.1 223 68 = Int32.ofNat (L - 1) ∧ h'.1 223 69 = h0.1 223 69 ∧ ∀ j : Nat, j + 1 < L → h'.1 280 j = h0.1 280 (j + 1)
  | 0, k, h, hk, hn, F, a8, a9, row, e => by omega
  | n + 1, k, h, hk, hn, F, a8, a9, row, e => by
    have S : SH h.2 := by rw [F.2]; exact S0
    have eL := i32n (n := L) (by omega)
    have ek := i32n (n := k + 1) (by omega)
    have ekn : (Int32.ofNat (k + 1)).toNatClampNeg = k + 1 := o32c (by omega)
    rcases zc_pt_l S e with ⟨q0, e⟩ | ⟨q0, q1, e⟩ | ⟨q0, q1, e⟩
    · rw [a8, e68] at q0
      have w := zc_pt_x S e
      refine ⟨_, w, F.set (by omega), ?_, ?_, fun j hj => ?_⟩
      · rw [setI_at, a8, e68, nsub1 (by omega) (by omega)]
      · rw [setI_no (by omega)]; exact a9
      · rw [setI_no (by omega), row, if_pos (by omega)]
    · exact absurd q1 (by decide)
    · rw [a8, e68] at q0
      have s1 : (Int32.ofNat (k + 1) - Int32.ofInt 1).toNatClampNeg = k := by
        rw [(nsub (by omega)).1]
        exact o32c (by omega)
      rw [s1, ekn] at e
      have e := zc_pt_i (h := fl_setI h 280 k (h.1 280 (k + 1))) S e
      rw [o32 (by omega)] at e
      refine zc_pt_loop e68 L12 S0 n (k + 1) _ (by omega) (by omega) (F.set (by omega)) (by rw [setI_no (by omega)]; exact a8) (by rw [setI_no (by omega)]; exact a9) (fun j => ?_) e
      by_cases z : j = k
      · rw [z, setI_at, row, if_neg (by omega), if_pos (by omega)]
      · rw [setI_no (by omega), row]
        by_cases y : j < k
        · rw [if_pos y, if_pos (by omega)]
        · rw [if_neg y, if_neg (by omega)]
theorem z_take1 {d n p : Nat} {h : Hp} {l : List Int32} {r : Option Value × Hp × Nat} (S : SH h.2) (hp : p ≤ 12) (C : RAq h l n p) (h0 : 0 < l.length) (e : Ev d 201 (0, [some (.ref 223), some (.int (Int32.ofInt 1)), none], [], h, fl_tot) r) : ∃ h', r = (none, h', fl_tot) ∧ FM h h' ∧ RAq h' l.tail n p := by
  obtain ⟨c1, c2, c3, c4, c5⟩ := C
  have e := zc_pt_0 S e
  obtain ⟨h', w, F, a8, a9, row⟩ := zc_pt_loop (L := l.length) c1 (by omega) S (l.length + 1) 0 h (by omega) (by omega) (FM.refl h) rfl rfl (fun j => by rw [if_neg (by omega)]) e
  refine ⟨h', w, F, by rw [List.length_tail]; exact a8, by rw [List.length_tail]; omega, fun j hj => ?_, by rw [a9]; exact c4, c5⟩
  rw [List.length_tail] at hj
  rw [row j (by omega), List.getElem?_tail]
  exact c3 (j + 1) (by omega)
theorem z_take0 {d n p : Nat} {h : Hp} {l : List Int32} {r : Option Value × Hp × Nat} (S : SH h.2) (hp : p ≤ 12) (C : RAq h l n p) (h0 : 0 < l.length) (e : Ev d 201 (0, [some (.ref 223), some (.int (Int32.ofInt 0)), none], [], h, fl_tot) r) : ∃ h', r = (none, h', fl_tot) ∧ FM h h' ∧ RAq h' l.dropLast n p := by
  obtain ⟨c1, c2, c3, c4, c5⟩ := C
  have e := zc_pt_0 S e
  have w : r = (none, fl_setI h 223 68 ((h.1 223 68) - (Int32.ofInt 1)), fl_tot) := by
    rcases zc_pt_l S e with ⟨q0, e⟩ | ⟨q0, q1, e⟩ | ⟨q0, q1, e⟩
    · exact zc_pt_x S e
    · exact zc_pt_x S e
    · exact absurd (by decide) q1
  refine ⟨_, w, (FM.refl _).set (by omega), ?_, by rw [List.length_dropLast]; omega, fun j hj => ?_, by rw [setI_no (by omega)]; exact c4, c5⟩
  · rw [setI_at, c1, List.length_dropLast, nsub1 h0 (by omega)]
  · rw [List.length_dropLast] at hj
    rw [setI_no (by omega), List.getElem?_dropLast, if_pos hj]
    exact c3 j (by omega)
theorem RAq.pl {h : Hp} {l : List Int32} {n p : Nat} {v : Int32} (C : RAq h l n p) (hp : p ≤ 12) : RAq (fl_setI (fl_setI h 280 (h.1 223 68).toNatClampNeg v) 223 68 ((h.1 223 68) + (Int32.ofInt 1))) (l ++ [v]) n (p + 1) := by
  obtain ⟨c1, c2, c3, c4, c5⟩ := C
  rw [c1, o32c (by omega), o32 (by omega)]
  have ln : (l ++ [v]).length = l.length + 1 := by rw [List.length_append]; rfl
  refine ⟨by rw [setI_at, ln], by omega, fun j hj => ?_, by rw [setI_no (by omega), setI_no (by omega)]; exact c4, by omega⟩
  rw [ln] at hj
  rw [setI_no (by omega)]
  by_cases z : j = l.length
  · rw [z, setI_at, List.getElem?_append_right (Nat.le_refl _), Nat.sub_self]
    rfl
  · rw [setI_no (by omega), List.getElem?_append_left (by omega)]
    exact c3 j (by omega)
theorem RAq.cl {h : Hp} {l : List Int32} {n p : Nat} (C : RAq h l n p) : RAq (fl_setI h 223 69 (Int32.ofInt 1)) l (n + 1) (p + 1) := by
  obtain ⟨c1, c2, c3, c4, c5⟩ := C
  refine ⟨by rw [setI_no (by omega)]; exact c1, by omega, fun j hj => ?_, by rw [setI_at, if_pos (by omega)], by omega⟩
  rw [setI_no (by omega)]
  exact c3 j hj
theorem RAq.up {h : Hp} {l : List Int32} {n p q : Nat} (C : RAq h l n p) (hpq : p ≤ q) : RAq h l n q := ⟨C.1, Nat.le_trans C.2.1 hpq, C.2.2.1, C.2.2.2.1, Nat.le_trans C.2.2.2.2 hpq⟩
theorem zc_pd_loop {d L : Nat} {h0 : Hp} {x t op a how : Int32} {r : Option Value × Hp × Nat} (L12 : L ≤ 12) (S0 : SH h0.2) (ho : op.toInt = 1) : ∀ (k : Nat) (h : Hp), k ≤ L → FM h0 h → h.1 223 68 = h0.1 223 68 → h.1 223 69 = h0.1 223 69 → (∀ j : Nat, j ≤ L → h.1 280 j = if k < j then h0.1 280 (j - 1) else h0.1 280 j) → Ev d 202 (98, [some (.ref 223), some (.int x), some (.int t), some (.int op), some (.int a), some (.int how), some (.int (Int32.ofNat k))], [], h, fl_tot) r → ∃ h', FM h0 h' ∧ h'.1 223 68 = h0.1 223 68 ∧ h'.1 223 69 = h0.1 223 69 ∧ (∀ j : Nat, j < L → h'.1 280 (j + 1) = h0.1 280 j) ∧ Ev d 202 (130, [some (.ref 223), some (.int x), some (.int t), some (.int op), some (.int a), some (.int how), some (.int (Int32.ofNat 0))], [], h', fl_tot) r
  | 0, h, hk, F, a8, a9, row, e => by
    have S : SH h.2 := by rw [F.2]; exact S0
    rcases zc_pd_l S e with ⟨q0, e⟩ | ⟨q0, q1, e⟩ | ⟨q0, q1, e⟩
    · exact ⟨h, F, a8, a9, fun j hj => by rw [row _ (by omega), if_pos (by omega), Nat.add_sub_cancel], e⟩
    · exact absurd q0 (by decide)
    · exact absurd q0 (by decide)
  | k + 1, h, hk, F, a8, a9, row, e => by
    have S : SH h.2 := by rw [F.2]; exact S0
    have ek := i32n (n := k + 1) (by omega)
    have ekn : (Int32.ofNat (k + 1)).toNatClampNeg = k + 1 := o32c (by omega)
    rcases zc_pd_l S e with ⟨q0, e⟩ | ⟨q0, q1, e⟩ | ⟨q0, q1, e⟩
    · exfalso; omega
    · exact absurd ho q1
    · have s1 : (Int32.ofNat (k + 1) - Int32.ofInt 1).toNatClampNeg = k := by
        rw [(nsub (by omega)).1]
        exact o32c (by omega)
      rw [s1, ekn] at e
      have e := zc_pd_i (h := fl_setI h 280 (k + 1) (h.1 280 k)) S e
      have s2 : Int32.ofNat (k + 1) + Int32.ofInt (-1) = Int32.ofNat k := by
        rw [(nsub (n := k + 1) (by omega)).2, (nsub (n := k) (by omega)).1]
      rw [s2] at e
      refine zc_pd_loop L12 S0 ho k _ (by omega) (F.set (by omega)) (by rw [setI_no (by omega)]; exact a8) (by rw [setI_no (by omega)]; exact a9) (fun j hj => ?_) e
      by_cases z : j = k + 1
      · rw [z, setI_at, row _ (by omega), if_neg (by omega), if_pos (by omega), Nat.add_sub_cancel]
      · rw [setI_no (by omega), row j hj]
        by_cases y : k + 1 < j
        · rw [if_pos y, if_pos (by omega)]
        · rw [if_neg y, if_neg (by omega)]


theorem r_queue {d p n : Nat} {h : Hp} {x t op a b how ans : Int32} {l : List Int32} {r : Option Value × Hp × Nat} (S : SH h.2) (HD : ADM h x op a b how ans) (hk : (h.1 224 t.toNatClampNeg).toInt = 1) (hp : p ≤ 11) (C : RAq h l n p) (e : Ev d 199 (0, [some (.ref 223), some (.int x), some (.int t), none, none, none, none, none, none, none, none], [], h, fl_tot) r) : ∃ (v : Int32) (h' : Hp), r = (some (.int v), h', fl_tot) ∧ FM h h' ∧ (v.toInt ≠ 0 ↔ okQ op.toInt a how ans l) ∧ (okQ op.toInt a how ans l → RAq h' (nxQ op.toInt a l) n (p + 1)) := by
  have i0 : (Int32.ofInt 0).toInt = 0 := by decide
  have i1 : (Int32.ofInt 1).toInt = 1 := by decide
  have L := C.ln (by omega)
  rcases zc_pl_queue S HD hk e with ⟨q0, q1, q2, q3, q4, w⟩ | ⟨q0, q1, q2, q3, q4, w⟩ | ⟨q0, q1, q2, q3, e⟩ | ⟨q0, q1, q2, q3, w⟩ | ⟨q0, q1, q2, q3, q4, w⟩ | ⟨q0, q1, q2, q3, q4, w⟩
  · have EO : okQ op.toInt a how ans l ↔ how.toInt = 1 := by
      unfold okQ
      rw [if_neg q2, if_pos (by omega)]
    rw [EO]
    exact ⟨_, _, w, FM.refl _, by omega, fun z => by omega⟩
  · have EO : okQ op.toInt a how ans l ↔ how.toInt = 1 := by
      unfold okQ
      rw [if_neg q2, if_pos (by omega)]
    rw [EO]
    refine ⟨_, _, w, FM.refl _, by omega, fun z => ?_⟩
    have zl : l = [] := List.eq_nil_of_length_eq_zero (by omega)
    subst zl
    have en : nxQ op.toInt a [] = [] := if_neg q2
    rw [en]
    exact C.up (by omega)
  · cases l with
    | nil =>
      have := L.1
      rw [List.length_nil] at this
      exfalso; omega
    | cons v l =>
      have EO : okQ op.toInt a how ans (v :: l) ↔ (how.toInt = 0 ∧ ans.toInt = v.toInt) := by
        unfold okQ
        rw [if_neg q2, if_neg (by rw [List.length_cons]; omega)]
        exact Iff.rfl
      have e0 := C.2.2.1 0 (by rw [List.length_cons]; omega)
      have ev : v = h.1 280 0 := by
        have y : some v = some (h.1 280 0) := e0
        cases y
        rfl
      have en : nxQ op.toInt a (v :: l) = l := if_neg q2
      rw [EO, en]
      obtain ⟨d3, v3, h3, n3, z3, ec3, e⟩ := b_call (m2 := 201) (k := 1) (nL := 3) (as := [.ref 223, .int (Int32.ofInt 1)]) (rest := []) (L := [some (.ref 223), some (.int (Int32.ofInt 1)), none]) e (show fl_code 199 292 = some (18, [((201 : Nat) : Int), ((1 : Nat) : Int)], 295) by decide +kernel) rfl (by decide +kernel) rfl rfl rfl
      obtain ⟨h', w1, F, C'⟩ := z_take1 S (by omega) C (by rw [List.length_cons]; omega) ec3
      obtain ⟨wa, wb, wc⟩ := tri w1
      rw [wa, wb, wc] at e
      have S' : SH h'.2 := by rw [F.2]; exact S
      have e : Ev d 199 (295, [some (.ref 223), some (.int x), some (.int t), some (.int op), some (.int a), some (.int how), some (.int ans), some (.int (Int32.ofInt 1)), some (.int (h.1 280 0)), none, none], [], h', fl_tot) r := e
      rw [← ev] at e
      have C' := C'.up (q := p + 1) (by omega)
      rcases zc_pl_q2 S' e with ⟨y0, y1, w⟩ | ⟨y0, y1, w⟩ | ⟨y0, y1, w⟩ | ⟨y0, y1, y2, w⟩ | ⟨y0, y1, y2, w⟩
      · exfalso; omega
      · exfalso; omega
      · exact ⟨_, _, w, F, by omega, fun _ => C'⟩
      · exact ⟨_, _, w, F, by omega, fun _ => C'⟩
      · exact ⟨_, _, w, F, by omega, fun _ => C'⟩
  · have EO : okQ op.toInt a how ans l ↔ (how.toInt = 0 ∧ ans.toInt = a.toInt) := by
      unfold okQ
      rw [if_pos q2]
    have en : nxQ op.toInt a l = l ++ [a] := if_pos q2
    rw [EO, en]
    exact ⟨_, _, w, ((FM.refl _).set (by omega)).set (by omega), by omega, fun _ => C.pl (by omega)⟩
  · have EO : okQ op.toInt a how ans l ↔ (how.toInt = 0 ∧ ans.toInt = a.toInt) := by
      unfold okQ
      rw [if_pos q2]
    have en : nxQ op.toInt a l = l ++ [a] := if_pos q2
    rw [EO, en]
    exact ⟨_, _, w, ((FM.refl _).set (by omega)).set (by omega), by omega, fun _ => C.pl (by omega)⟩
  · have EO : okQ op.toInt a how ans l ↔ (how.toInt = 0 ∧ ans.toInt = a.toInt) := by
      unfold okQ
      rw [if_pos q2]
    have en : nxQ op.toInt a l = l ++ [a] := if_pos q2
    rw [EO, en]
    exact ⟨_, _, w, ((FM.refl _).set (by omega)).set (by omega), by omega, fun _ => C.pl (by omega)⟩

theorem ADM.fm {h h' : Hp} {x op a b how ans : Int32} (D : ADM h x op a b how ans) (F : FM h h') : ADM h' x op a b how ans := by
  unfold ADM
  rw [F.1 229 _ (by omega) (by omega), F.1 230 _ (by omega) (by omega), F.1 231 _ (by omega) (by omega), F.1 239 _ (by omega) (by omega), F.1 238 _ (by omega) (by omega)]
  exact D

theorem okD_4 {op : Int} {a how ans : Int32} {room : Int} {l : List Int32} {n : Nat} (ho : op = 4) : okD op a how ans room l n ↔ (how.toInt = 0 ∧ ans.toInt = 0) := by
  unfold okD
  rw [if_pos ho]
theorem okD_1c {op : Int} {a how ans : Int32} {room : Int} {l : List Int32} {n : Nat} (h4 : op ≠ 4) (ho : op < 2) (hn : 0 < n) : okD op a how ans room l n ↔ how.toInt = 2 := by
  unfold okD
  rw [if_neg h4, if_pos ho, if_pos hn]
theorem okD_1o {op : Int} {a how ans : Int32} {room : Int} {l : List Int32} {n : Nat} (h4 : op ≠ 4) (ho : op < 2) (hn : ¬ 0 < n) : okD op a how ans room l n ↔ ((l.length : Int) < room ∧ how.toInt = 0 ∧ ans.toInt = a.toInt) := by
  unfold okD
  rw [if_neg h4, if_pos ho, if_neg hn]
theorem okD_2e {op : Int} {a how ans : Int32} {room : Int} {l : List Int32} {n : Nat} (h4 : op ≠ 4) (ho : ¬ op < 2) (hl : l.length = 0) : okD op a how ans room l n ↔ (0 < n ∧ how.toInt = 2) := by
  unfold okD
  rw [if_neg h4, if_neg ho, if_pos hl]
theorem okD_2l {op : Int} {a how ans : Int32} {room : Int} {l : List Int32} {n : Nat} (h4 : op ≠ 4) (ho : ¬ op < 2) (hl : ¬ l.length = 0) : okD op a how ans room l n ↔ (how.toInt = 0 ∧ ans.toInt = ((if op = 2 then l[0]? else l[l.length - 1]?).getD (Int32.ofInt 0)).toInt) := by
  unfold okD
  rw [if_neg h4, if_neg ho, if_neg hl]
theorem nxD_n {op : Int} {a how : Int32} {l : List Int32} {n : Nat} (h0 : how.toInt ≠ 0) : nxDl op a how l = l ∧ nxDn op how n = n := by
  unfold nxDl nxDn
  rw [if_neg h0, if_neg (fun z => h0 z.1)]
  exact ⟨rfl, rfl⟩
theorem nxD_4 {op : Int} {a how : Int32} {l : List Int32} {n : Nat} (h0 : how.toInt = 0) (ho : op = 4) : nxDl op a how l = l ∧ nxDn op how n = n + 1 := by
  unfold nxDl nxDn
  rw [if_pos h0, if_neg (by omega), if_neg (by omega), if_neg (by omega), if_pos ho, if_pos ⟨h0, ho⟩]
  exact ⟨rfl, rfl⟩
theorem nxD_k {op : Int} {a how : Int32} {l : List Int32} {n : Nat} (h0 : how.toInt = 0) (ho : op ≠ 4) : nxDl op a how l = (if op = 0 then l ++ [a] else if op = 1 then a :: l else if op = 2 then l.tail else l.dropLast) ∧ nxDn op how n = n := by
  unfold nxDl nxDn
  rw [if_pos h0, if_neg (show ¬ op = 4 from ho), if_neg (show ¬ (how.toInt = 0 ∧ op = 4) from fun z => ho z.2)]
  exact ⟨rfl, rfl⟩
theorem r_pd {d p n : Nat} {h : Hp} {x t op a b how ans : Int32} {l : List Int32} {r : Option Value × Hp × Nat} (S : SH h.2) (HD : ADM h x op a b how ans) (ho4 : 0 ≤ op.toInt ∧ op.toInt ≤ 4) (hp : p ≤ 11) (C : RAq h l n p) (e : Ev d 202 (0, [some (.ref 223), some (.int x), some (.int t), none, none, none, none], [], h, fl_tot) r) : ∃ (v : Int32) (h' : Hp), r = (some (.int v), h', fl_tot) ∧ FM h h' ∧ (v.toInt ≠ 0 ↔ okD op.toInt a how ans (h.1 225 t.toNatClampNeg).toInt l n) ∧ (okD op.toInt a how ans (h.1 225 t.toNatClampNeg).toInt l n → RAq h' (nxDl op.toInt a how l) (nxDn op.toInt how n) (p + 1)) := by
  have i0 : (Int32.ofInt 0).toInt = 0 := by decide
  have i1 : (Int32.ofInt 1).toInt = 1 := by decide
  have L := C.ln (by omega)
  have L1 := L.1
  have L2 := L.2
  have c3 := C.2.2.1
  have c2 := C.2.1
  rcases zc_pd_0 S HD e with ⟨q0, q1, q2, q3, q4, e⟩ | ⟨q0, q1, q2, q3, q4, e⟩ | ⟨q0, q1, q2, q3, e⟩ | ⟨q0, q1, q2, q3, q4, e⟩ | ⟨q0, q1, q2, q3, q4, e⟩ | ⟨q0, q1, q2, q3, e⟩ | ⟨q0, q1, q2, q3, e⟩ | ⟨q0, q1, q2, q3, e⟩ | ⟨q0, q1, q2, q3, e⟩ | ⟨q0, q1, e⟩ | ⟨q0, q1, q2, e⟩ | ⟨q0, q1, q2, e⟩
  · have lp : ¬ l.length = 0 := fun z => by omega
    have EO := okD_2l (op := op.toInt) (a := a) (how := how) (ans := ans) (room := (h.1 225 t.toNatClampNeg).toInt) (n := n) (by omega) (by omega) lp
    have g : (if op.toInt = 2 then l[0]? else l[l.length - 1]?) = some (h.1 280 (l.length - 1)) := by
      rw [if_neg (by omega)]
      exact c3 _ (by omega)
    rw [g] at EO
    have EO : okD op.toInt a how ans (h.1 225 t.toNatClampNeg).toInt l n ↔ (how.toInt = 0 ∧ ans.toInt = (h.1 280 (l.length - 1)).toInt) := EO
    obtain ⟨d3, v3, h3, n3, z3, ec3, e⟩ := b_call (m2 := 201) (k := 1) (nL := 3) (as := [.ref 223, .int (Int32.ofInt 0)]) (rest := []) (L := [some (.ref 223), some (.int (Int32.ofInt 0)), none]) e (show fl_code 202 241 = some (18, [((201 : Nat) : Int), ((1 : Nat) : Int)], 244) by decide +kernel) rfl (by decide +kernel) rfl rfl rfl
    obtain ⟨h', w1, F, C'⟩ := z_take0 S (by omega) C (by omega) ec3
    obtain ⟨wa, wb, wc⟩ := tri w1
    rw [wa, wb, wc] at e
    have S' : SH h'.2 := by rw [F.2]; exact S
    have C' := C'.up (q := p + 1) (by omega)
    have HD' : ADM h' x op a b how ans := HD.fm F
    rw [EO]
    have ix : ((h.1 223 68) - (Int32.ofInt 1)).toNatClampNeg = l.length - 1 := by
      rw [C.1, nsub1 (by omega) (by omega)]
      exact o32c (by omega)
    have e : Ev d 202 (244, [some (.ref 223), some (.int x), some (.int t), some (.int op), some (.int a), some (.int how), some (.int (h.1 280 ((h.1 223 68) - (Int32.ofInt 1)).toNatClampNeg))], [], h', fl_tot) r := e
    rw [ix] at e
    rcases zc_pd_y S' HD' e with ⟨y0, w⟩ | ⟨y0, y1, w⟩ | ⟨y0, y1, w⟩
    · exact ⟨_, _, w, F, by omega, fun z => by omega⟩
    · exact ⟨_, _, w, F, by omega, fun z => by omega⟩
    · refine ⟨_, _, w, F, by omega, fun z => ?_⟩
      rw [(nxD_k (l := l) (n := n) (a := a) y0 (by omega)).1, (nxD_k (l := l) (n := n) (a := a) y0 (by omega)).2, if_neg (by omega), if_neg (by omega), if_neg (by omega)]
      exact C'
  · have lp : ¬ l.length = 0 := fun z => by omega
    have EO := okD_2l (op := op.toInt) (a := a) (how := how) (ans := ans) (room := (h.1 225 t.toNatClampNeg).toInt) (n := n) (by omega) (by omega) lp
    have g : (if op.toInt = 2 then l[0]? else l[l.length - 1]?) = some (h.1 280 0) := by
      rw [if_pos (by omega)]
      exact c3 _ (by omega)
    rw [g] at EO
    have EO : okD op.toInt a how ans (h.1 225 t.toNatClampNeg).toInt l n ↔ (how.toInt = 0 ∧ ans.toInt = (h.1 280 0).toInt) := EO
    obtain ⟨d3, v3, h3, n3, z3, ec3, e⟩ := b_call (m2 := 201) (k := 1) (nL := 3) (as := [.ref 223, .int (Int32.ofInt 1)]) (rest := []) (L := [some (.ref 223), some (.int (Int32.ofInt 1)), none]) e (show fl_code 202 241 = some (18, [((201 : Nat) : Int), ((1 : Nat) : Int)], 244) by decide +kernel) rfl (by decide +kernel) rfl rfl rfl
    obtain ⟨h', w1, F, C'⟩ := z_take1 S (by omega) C (by omega) ec3
    obtain ⟨wa, wb, wc⟩ := tri w1
    rw [wa, wb, wc] at e
    have S' : SH h'.2 := by rw [F.2]; exact S
    have C' := C'.up (q := p + 1) (by omega)
    have HD' : ADM h' x op a b how ans := HD.fm F
    rw [EO]
    have e : Ev d 202 (244, [some (.ref 223), some (.int x), some (.int t), some (.int op), some (.int a), some (.int how), some (.int (h.1 280 0))], [], h', fl_tot) r := e
    rcases zc_pd_y S' HD' e with ⟨y0, w⟩ | ⟨y0, y1, w⟩ | ⟨y0, y1, w⟩
    · exact ⟨_, _, w, F, by omega, fun z => by omega⟩
    · exact ⟨_, _, w, F, by omega, fun z => by omega⟩
    · refine ⟨_, _, w, F, by omega, fun z => ?_⟩
      rw [(nxD_k (l := l) (n := n) (a := a) y0 (by omega)).1, (nxD_k (l := l) (n := n) (a := a) y0 (by omega)).2, if_neg (by omega), if_neg (by omega), if_pos (by omega)]
      exact C'
  · have hl : l.length = 0 := by omega
    have hn : ¬ 0 < n := fun z => by
      rw [if_pos z] at L2
      omega
    rw [okD_2e (show op.toInt ≠ 4 by omega) (by omega) hl]
    exact ⟨_, _, e, FM.refl _, by omega, fun z => by omega⟩
  · have hl : l.length = 0 := by omega
    have hn : 0 < n := by
      by_cases z : 0 < n
      · exact z
      · rw [if_neg z] at L2
        omega
    rw [okD_2e (show op.toInt ≠ 4 by omega) (by omega) hl]
    exact ⟨_, _, e, FM.refl _, by omega, fun z => by omega⟩
  · have hl : l.length = 0 := by omega
    have hn : 0 < n := by
      by_cases z : 0 < n
      · exact z
      · rw [if_neg z] at L2
        omega
    rw [okD_2e (show op.toInt ≠ 4 by omega) (by omega) hl]
    refine ⟨_, _, e, FM.refl _, by omega, fun z => ?_⟩
    rw [(nxD_n (op := op.toInt) (l := l) (n := n) (a := a) (show how.toInt ≠ 0 by omega)).1, (nxD_n (op := op.toInt) (l := l) (n := n) (a := a) (show how.toInt ≠ 0 by omega)).2]
    exact C.up (by omega)
  · have hn : ¬ 0 < n := fun z => by
      rw [if_pos z] at L2
      omega
    have EO := okD_1o (a := a) (how := how) (ans := ans) (room := (h.1 225 t.toNatClampNeg).toInt) (l := l) (n := n) (show op.toInt ≠ 4 by omega) (by omega) hn
    rw [EO]
    rw [C.1] at e
    by_cases ho : op.toInt = 1
    · obtain ⟨h', F, a8, a9, row, e⟩ := zc_pd_loop (L := l.length) (by omega) S ho l.length h (Nat.le_refl _) (FM.refl h) rfl rfl (fun j hj => by rw [if_neg (by omega)]) e
      have S' : SH h'.2 := by rw [F.2]; exact S
      have HD' : ADM h' x op a b how ans := HD.fm F
      have CC : RAq (fl_setI (fl_setI h' 280 0 a) 223 68 ((h'.1 223 68) + (Int32.ofInt 1))) (a :: l) n (p + 1) := by
        refine ⟨by rw [setI_at, a8, C.1, o32 (by omega), List.length_cons], by rw [List.length_cons]; omega, fun j hj => ?_, by rw [setI_no (by omega), setI_no (by omega), a9]; exact C.2.2.2.1, by have := C.2.2.2.2; omega⟩
        rw [List.length_cons] at hj
        rw [setI_no (by omega)]
        cases j with
        | zero => rw [setI_at]; rfl
        | succ j =>
          rw [setI_no (by omega), row j (by omega), List.getElem?_cons_succ]
          exact c3 j (by omega)
      have F2 : FM h (fl_setI (fl_setI h' 280 0 a) 223 68 ((h'.1 223 68) + (Int32.ofInt 1))) := (F.set (by omega)).set (by omega)
      rcases zc_pd_x S' HD' e with ⟨y0, y1, w⟩ | ⟨y0, y1, y2, w⟩ | ⟨y0, y1, y2, w⟩ | ⟨y0, y1, w⟩ | ⟨y0, y1, y2, w⟩ | ⟨y0, y1, y2, w⟩
      · exact absurd ho y0
      · exact absurd ho y0
      · exact absurd ho y0
      · exact ⟨_, _, w, F2, by omega, fun z => by omega⟩
      · exact ⟨_, _, w, F2, by omega, fun z => by omega⟩
      · refine ⟨_, _, w, F2, by omega, fun z => ?_⟩
        rw [(nxD_k (l := l) (n := n) (a := a) y1 (by omega)).1, (nxD_k (l := l) (n := n) (a := a) y1 (by omega)).2, if_neg (by omega), if_pos (by omega)]
        exact CC
    · have CC := C.pl (v := a) (by omega)
      have F2 : FM h (fl_setI (fl_setI h 280 (h.1 223 68).toNatClampNeg a) 223 68 ((h.1 223 68) + (Int32.ofInt 1))) := ((FM.refl _).set (by omega)).set (by omega)
      have e : ∃ k : Int32, Ev d 202 (130, [some (.ref 223), some (.int x), some (.int t), some (.int op), some (.int a), some (.int how), some (.int k)], [], h, fl_tot) r := by
        rcases zc_pd_l S e with ⟨y0, e⟩ | ⟨y0, y1, e⟩ | ⟨y0, y1, e⟩
        · exact ⟨_, e⟩
        · exact ⟨_, e⟩
        · exact absurd y1 ho
      obtain ⟨k, e⟩ := e
      rcases zc_pd_x S HD e with ⟨y0, y1, w⟩ | ⟨y0, y1, y2, w⟩ | ⟨y0, y1, y2, w⟩ | ⟨y0, y1, w⟩ | ⟨y0, y1, y2, w⟩ | ⟨y0, y1, y2, w⟩
      · exact ⟨_, _, w, F2, by omega, fun z => by omega⟩
      · exact ⟨_, _, w, F2, by omega, fun z => by omega⟩
      · refine ⟨_, _, w, F2, by omega, fun z => ?_⟩
        rw [(nxD_k (l := l) (n := n) (a := a) y1 (by omega)).1, (nxD_k (l := l) (n := n) (a := a) y1 (by omega)).2, if_pos (by omega)]
        exact CC
      · exact absurd y0 ho
      · exact absurd y0 ho
      · exact absurd y0 ho
  · have hn : ¬ 0 < n := fun z => by
      rw [if_pos z] at L2
      omega
    rw [okD_1o (show op.toInt ≠ 4 by omega) (by omega) hn]
    exact ⟨_, _, e, FM.refl _, by omega, fun z => by omega⟩
  · have hn : 0 < n := by
      by_cases z : 0 < n
      · exact z
      · rw [if_neg z] at L2
        omega
    rw [okD_1c (show op.toInt ≠ 4 by omega) (by omega) hn]
    refine ⟨_, _, e, FM.refl _, by omega, fun z => ?_⟩
    rw [(nxD_n (op := op.toInt) (l := l) (n := n) (a := a) (show how.toInt ≠ 0 by omega)).1, (nxD_n (op := op.toInt) (l := l) (n := n) (a := a) (show how.toInt ≠ 0 by omega)).2]
    exact C.up (by omega)
  · have hn : 0 < n := by
      by_cases z : 0 < n
      · exact z
      · rw [if_neg z] at L2
        omega
    rw [okD_1c (show op.toInt ≠ 4 by omega) (by omega) hn]
    refine ⟨_, _, e, FM.refl _, by omega, fun z => ?_⟩
    rw [(nxD_n (op := op.toInt) (l := l) (n := n) (a := a) (show how.toInt ≠ 0 by omega)).1, (nxD_n (op := op.toInt) (l := l) (n := n) (a := a) (show how.toInt ≠ 0 by omega)).2]
    exact C.up (by omega)
  · rw [okD_4 (show op.toInt = 4 by omega)]
    refine ⟨_, _, e, (FM.refl _).set (by omega), by omega, fun z => ?_⟩
    exfalso; omega
  · rw [okD_4 (show op.toInt = 4 by omega)]
    refine ⟨_, _, e, (FM.refl _).set (by omega), by omega, fun z => ?_⟩
    exfalso; omega
  · rw [okD_4 (show op.toInt = 4 by omega)]
    refine ⟨_, _, e, (FM.refl _).set (by omega), by omega, fun z => ?_⟩
    rw [(nxD_4 (l := l) (n := n) (a := a) z.1 (by omega)).1, (nxD_4 (l := l) (n := n) (a := a) z.1 (by omega)).2]
    exact C.cl

theorem r_deque {d p n : Nat} {h : Hp} {x t op a b how ans : Int32} {l : List Int32} {r : Option Value × Hp × Nat} (S : SH h.2) (HD : ADM h x op a b how ans) (hk : (h.1 224 t.toNatClampNeg).toInt = 2) (hp : p ≤ 11) (C : RAq h l n p) (ho4 : 0 ≤ op.toInt ∧ op.toInt ≤ 4) (e : Ev d 199 (0, [some (.ref 223), some (.int x), some (.int t), none, none, none, none, none, none, none, none], [], h, fl_tot) r) : ∃ (v : Int32) (h' : Hp), r = (some (.int v), h', fl_tot) ∧ FM h h' ∧ (v.toInt ≠ 0 ↔ okD op.toInt a how ans (h.1 225 t.toNatClampNeg).toInt l n) ∧ (okD op.toInt a how ans (h.1 225 t.toNatClampNeg).toInt l n → RAq h' (nxDl op.toInt a how l) (nxDn op.toInt how n) (p + 1)) := by
  obtain ⟨y0, y1, y2, e⟩ := zc_pl_deque S HD hk e
  obtain ⟨d3, v3, h3, n3, z3, ec3, e⟩ := b_call (m2 := 202) (k := 2) (nL := 7) (as := [.ref 223, .int x, .int t]) (rest := []) (L := [some (.ref 223), some (.int x), some (.int t), none, none, none, none]) e (show fl_code 199 310 = some (18, [((202 : Nat) : Int), ((2 : Nat) : Int)], 313) by decide +kernel) rfl (by decide +kernel) rfl rfl rfl
  obtain ⟨v, h', w1, F, I, X⟩ := r_pd S HD ho4 hp C ec3
  obtain ⟨wa, wb, wc⟩ := tri w1
  rw [wa, wb, wc] at e
  have S' : SH h'.2 := by rw [F.2]; exact S
  exact ⟨v, h', zc_pl_d2 S' e, F, I, X⟩
