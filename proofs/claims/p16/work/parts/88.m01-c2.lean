
set_option maxRecDepth 20000
theorem nsub1 {n : Nat} (h0 : 0 < n) (h : n ≤ 600) : Int32.ofNat n - Int32.ofInt 1 = Int32.ofNat (n - 1) := by
  have y := (nsub (n := n - 1) (by omega)).1
  rw [Nat.sub_add_cancel (by omega)] at y
  exact y
/-! PICTURES OF THE PLAIN TRAY -/
abbrev KV : Type := Nat → Option Int32
def fset (f : KV) (k : Nat) (v : Option Int32) : KV := fun j => if j = k then v else f j
def gset (g : Nat → Int32) (k : Nat) (v : Int32) : Nat → Int32 := fun j => if j = k then v else g j
def okKey (a : Nat) (how ans : Int32) (f : KV) : Prop := match f a with
  | some v => how.toInt = 0 ∧ ans.toInt = v.toInt
  | none => how.toInt = 1
def okMap (op : Int) (a : Nat) (b how ans : Int32) (f : KV) : Prop := if op = 3 then how.toInt = 0 ∧ ans.toInt = ((f a).getD (Int32.ofInt 0) + b).toInt else okKey a how ans f
/-- the sum of a copies' tray -/
def wsf (f : KV) : Nat → Int32
  | 0 => Int32.ofInt 0
  | n + 1 => match f n with
    | some v => wsf f n + (Int32.ofNat n + Int32.ofInt 1) * v
    | none => wsf f n
def okCop (op : Int) (a : Nat) (how ans : Int32) (f : KV) : Prop := if op = 3 then how.toInt = 0 ∧ ans.toInt = (wsf f 32).toInt else okKey a how ans f
def okOnc (a : Nat) (how ans own : Int32) (f : KV) : Prop := match f a with
  | none => how.toInt = 3 ∨ (how.toInt = 0 ∧ ans.toInt = own.toInt)
  | some v => how.toInt = 0 ∧ ans.toInt ≠ own.toInt ∧ ans.toInt = v.toInt
def nxKey (op : Int) (a : Nat) (b : Int32) (f : KV) : KV := if op = 0 then fset f a (some b) else if op = 2 then fset f a none else f
def nxMap (op : Int) (a : Nat) (b ans : Int32) (f : KV) : KV := if op = 3 then fset f a (some ans) else nxKey op a b f
def nxCop (op : Int) (a : Nat) (b : Int32) (f : KV) : KV := if op = 3 then f else nxKey op a b f
def nxOnc (a : Nat) (how ans : Int32) (f : KV) : KV := if how.toInt = 0 then fset f a (some ans) else f
def okQ (op : Int) (a how ans : Int32) (l : List Int32) : Prop := if op = 0 then how.toInt = 0 ∧ ans.toInt = a.toInt else if l.length = 0 then how.toInt = 1 else how.toInt = 0 ∧ ans.toInt = ((l[0]?).getD (Int32.ofInt 0)).toInt
def nxQ (op : Int) (a : Int32) (l : List Int32) : List Int32 := if op = 0 then l ++ [a] else l.tail
def okD (op : Int) (a how ans : Int32) (room : Int) (l : List Int32) (n : Nat) : Prop := if op = 4 then how.toInt = 0 ∧ ans.toInt = 0 else if op < 2 then (if 0 < n then how.toInt = 2 else (l.length : Int) < room ∧ how.toInt = 0 ∧ ans.toInt = a.toInt) else if l.length = 0 then 0 < n ∧ how.toInt = 2 else how.toInt = 0 ∧ ans.toInt = ((if op = 2 then l[0]? else l[l.length - 1]?).getD (Int32.ofInt 0)).toInt
def nxDl (op : Int) (a how : Int32) (l : List Int32) : List Int32 := if how.toInt = 0 then (if op = 0 then l ++ [a] else if op = 1 then a :: l else if op = 2 then l.tail else if op = 4 then l else l.dropLast) else l
def nxDn (op : Int) (how : Int32) (n : Nat) : Nat := if how.toInt = 0 ∧ op = 4 then n + 1 else n
def okC (op : Int) (m : Nat) (a how ans : Int32) (g : Nat → Int32) : Prop := how.toInt = 0 ∧ ans.toInt = (if op = 1 then g 0 + g 1 + g 2 + g 3 else g m + a).toInt
def nxC (op : Int) (m : Nat) (ans : Int32) (g : Nat → Int32) : Nat → Int32 := if op = 1 then g else gset g m ans
/-! THE CLASS'S PLAIN TRAY HAS A PICTURE -/
/-- the plain tray's cells alone are written -/
def FP (h h' : Hp) : Prop := (∀ r j : Nat, ¬ (r = 213 ∨ r = 214) → h'.1 r j = h.1 r j) ∧ h'.2 = h.2
theorem FP.refl (h : Hp) : FP h h := ⟨fun _ _ _ => rfl, rfl⟩
theorem FP.trans {a b c : Hp} (x : FP a b) (y : FP b c) : FP a c := ⟨fun r j z => (y.1 r j z).trans (x.1 r j z), y.2.trans x.2⟩
theorem FP.set {h h' : Hp} (x : FP h h') {r j : Nat} {v : Int32} (hr : r = 213 ∨ r = 214) : FP h (fl_setI h' r j v) := ⟨fun r' j' z => by
  rw [setI_no (by omega)]
  exact x.1 r' j' z, x.2⟩
def CAk (h : Hp) (f : KV) : Prop := ∀ j : Nat, j < 32 → (hb (h.1 213 1) j = true ↔ (f j).isSome = true) ∧ ∀ v : Int32, f j = some v → h.1 214 j = v
def CAq (h : Hp) (l : List Int32) (n p : Nat) : Prop := h.1 213 3 = Int32.ofNat l.length ∧ l.length ≤ p ∧ (∀ j : Nat, j < l.length → l[j]? = some (h.1 214 (rg (h.1 213 2) j))) ∧ h.1 213 4 = Int32.ofNat n ∧ n ≤ p
def CAs (h : Hp) (g : Nat → Int32) : Prop := ∀ m : Nat, m < 4 → h.1 214 m = g m
theorem CAk.z0 {h : Hp} {f : KV} {k : Nat} (C : CAk h f) (k32 : k < 32) (e : f k = none) : ((ushr (h.1 213 1) ((Int32.ofNat k) &&& (Int32.ofInt 31))) &&& (Int32.ofInt 1)).toInt = 0 := (hb_iff0 k32).mpr (by
  cases y : hb (h.1 213 1) k
  · rfl
  · have := (C k k32).1.mp y
    rw [e] at this
    cases this)
theorem CAk.z1 {h : Hp} {f : KV} {k : Nat} {v : Int32} (C : CAk h f) (k32 : k < 32) (e : f k = some v) : ((ushr (h.1 213 1) ((Int32.ofNat k) &&& (Int32.ofInt 31))) &&& (Int32.ofInt 1)).toInt ≠ 0 ∧ h.1 214 (((Int32.ofNat k) &&& (Int32.ofInt 31)).toNatClampNeg) = v := ⟨(hb_iff k32).mpr ((C k k32).1.mpr (by rw [e]; rfl)), by rw [an31 k32]; exact (C k k32).2 v e⟩
theorem fset_at {f : KV} {k : Nat} {v : Option Int32} : fset f k v k = v := if_pos rfl
theorem fset_no {f : KV} {k j : Nat} {v : Option Int32} (h : j ≠ k) : fset f k v j = f j := if_neg h
theorem CAk.put {h : Hp} {f : KV} {k : Nat} {v : Int32} (k32 : k < 32) (C : CAk h f) : CAk (fl_setI (fl_setI h 213 1 ((h.1 213 1) ||| ((Int32.ofInt 1) <<< (((Int32.ofNat k) &&& (Int32.ofInt 31)) &&& 31)))) 214 ((Int32.ofNat k) &&& (Int32.ofInt 31)).toNatClampNeg v) (fset f k (some v)) := fun j hj => by
  rw [an31 k32, setI_no (by omega), setI_at, hb_or hj k32]
  obtain ⟨c1, c2⟩ := C j hj
  by_cases z : j = k
  · subst z
    rw [fset_at, setI_at]
    simp
  · rw [fset_no z, setI_no (by omega), setI_no (by omega)]
    refine ⟨?_, c2⟩
    rw [← c1]
    simp [z]
theorem CAk.out {h : Hp} {f : KV} {k : Nat} (k32 : k < 32) (C : CAk h f) : CAk (fl_setI h 213 1 ((h.1 213 1) &&& (((Int32.ofInt 1) <<< (((Int32.ofNat k) &&& (Int32.ofInt 31)) &&& 31)) ^^^ (Int32.ofInt (-1))))) (fset f k none) := fun j hj => by
  rw [setI_at, hb_out hj k32]
  obtain ⟨c1, c2⟩ := C j hj
  by_cases z : j = k
  · subst z
    rw [fset_at]
    simp
  · rw [fset_no z, setI_no (by omega)]
    refine ⟨?_, c2⟩
    rw [← c1]
    simp [z]
theorem CAk.held {h : Hp} {f : KV} {x : Int32} (HB : ∀ j : Nat, j < 32 → (hb x j = true ↔ (f j).isSome = true)) (V : ∀ j : Nat, j < 32 → ∀ v : Int32, f j = some v → h.1 214 j = v) : CAk (fl_setI h 213 1 x) f := fun j hj => by
  rw [setI_at, setI_no (by omega)]
  exact ⟨HB j hj, V j hj⟩
theorem len_ib {n p : Nat} (h : n ≤ p) (hp : p ≤ 12) : (Int32.ofNat n).toInt = n := i32n (by omega)
theorem CAq.ln {h : Hp} {l : List Int32} {n p : Nat} (C : CAq h l n p) (hp : p ≤ 12) : (h.1 213 3).toInt = l.length ∧ (h.1 213 4).toInt = n := by
  obtain ⟨c1, c2, c3, c4, c5⟩ := C
  rw [c1, c4, i32n (by omega), i32n (by omega)]
  exact ⟨rfl, rfl⟩
theorem CAq.pl {h : Hp} {l : List Int32} {n p : Nat} {v : Int32} (C : CAq h l n p) (hp : p ≤ 12) : CAq (fl_setI (fl_setI h 214 (((h.1 213 2) + (h.1 213 3)) &&& (Int32.ofInt 63)).toNatClampNeg v) 213 3 ((h.1 213 3) + (Int32.ofInt 1))) (l ++ [v]) n (p + 1) := by
  obtain ⟨c1, c2, c3, c4, c5⟩ := C
  rw [c1]
  have rl : (((h.1 213 2) + (Int32.ofNat l.length)) &&& (Int32.ofInt 63)).toNatClampNeg = rg (h.1 213 2) l.length := rg_len
  rw [rl]
  refine ⟨?_, by rw [List.length_append]; simp; omega, fun j hj => ?_, by rw [setI_no (by omega), setI_no (by omega)]; exact c4, by omega⟩
  · rw [setI_at, o32 (by omega), List.length_append]
    rfl
  · rw [List.length_append] at hj
    have hj : j < l.length + 1 := hj
    have e2 : (fl_setI (fl_setI h 214 (rg (h.1 213 2) l.length) v) 213 3 (Int32.ofNat l.length + Int32.ofInt 1)).1 213 2 = h.1 213 2 := by rw [setI_no (by omega), setI_no (by omega)]
    rw [e2, setI_no (by omega)]
    by_cases z : j = l.length
    · rw [z, setI_at, List.getElem?_append_right (Nat.le_refl _), Nat.sub_self]
      rfl
    · rw [setI_no (fun y => rg_ne (by omega) (by omega) z y.2), List.getElem?_append_left (by omega)]
      exact c3 j (by omega)
theorem CAq.pf {h : Hp} {l : List Int32} {n p : Nat} {v : Int32} (C : CAq h l n p) (hp : p ≤ 12) : CAq (fl_setI (fl_setI (fl_setI h 213 2 (((h.1 213 2) - (Int32.ofInt 1)) &&& (Int32.ofInt 63))) 213 3 ((h.1 213 3) + (Int32.ofInt 1))) 214 ((((h.1 213 2) - (Int32.ofInt 1)) &&& (Int32.ofInt 63)) &&& (Int32.ofInt 63)).toNatClampNeg v) (v :: l) n (p + 1) := by
  obtain ⟨c1, c2, c3, c4, c5⟩ := C
  rw [c1, rg_dn0]
  refine ⟨?_, by rw [List.length_cons]; omega, fun j hj => ?_, by rw [setI_no (by omega), setI_no (by omega), setI_no (by omega)]; exact c4, by omega⟩
  · rw [setI_no (by omega), setI_at, o32 (by omega), List.length_cons]
  · rw [List.length_cons] at hj
    have e2 : (fl_setI (fl_setI (fl_setI h 213 2 (((h.1 213 2) - (Int32.ofInt 1)) &&& (Int32.ofInt 63))) 213 3 (Int32.ofNat l.length + Int32.ofInt 1)) 214 (rg (((h.1 213 2) - (Int32.ofInt 1)) &&& (Int32.ofInt 63)) 0) v).1 213 2 = ((h.1 213 2) - (Int32.ofInt 1)) &&& (Int32.ofInt 63) := by rw [setI_no (by omega), setI_no (by omega), setI_at]
    rw [e2]
    cases j with
    | zero => rw [setI_at]; rfl
    | succ j =>
      rw [setI_no (fun y => rg_ne (by omega) (by omega) (Nat.succ_ne_zero j) y.2), setI_no (by omega), setI_no (by omega), rg_dn (by omega), List.getElem?_cons_succ]
      exact c3 j (by omega)
theorem CAq.tf {h : Hp} {l : List Int32} {n p : Nat} (C : CAq h l n p) (hp : p ≤ 12) (h0 : 0 < l.length) : CAq (fl_setI (fl_setI h 213 2 (((h.1 213 2) + (Int32.ofInt 1)) &&& (Int32.ofInt 63))) 213 3 ((h.1 213 3) - (Int32.ofInt 1))) l.tail n p := by
  obtain ⟨c1, c2, c3, c4, c5⟩ := C
  rw [c1]
  refine ⟨?_, by rw [List.length_tail]; omega, fun j hj => ?_, by rw [setI_no (by omega), setI_no (by omega)]; exact c4, c5⟩
  · rw [setI_at, List.length_tail, nsub1 h0 (by omega)]
  · rw [List.length_tail] at hj
    have e2 : (fl_setI (fl_setI h 213 2 (((h.1 213 2) + (Int32.ofInt 1)) &&& (Int32.ofInt 63))) 213 3 (Int32.ofNat l.length - Int32.ofInt 1)).1 213 2 = ((h.1 213 2) + (Int32.ofInt 1)) &&& (Int32.ofInt 63) := by rw [setI_no (by omega), setI_at]
    rw [e2, setI_no (by omega), setI_no (by omega), rg_up (by omega), List.getElem?_tail]
    exact c3 (j + 1) (by omega)
theorem CAq.tl {h : Hp} {l : List Int32} {n p : Nat} (C : CAq h l n p) (hp : p ≤ 12) (h0 : 0 < l.length) : CAq (fl_setI h 213 3 ((h.1 213 3) - (Int32.ofInt 1))) l.dropLast n p := by
  obtain ⟨c1, c2, c3, c4, c5⟩ := C
  rw [c1]
  refine ⟨?_, by rw [List.length_dropLast]; omega, fun j hj => ?_, by rw [setI_no (by omega)]; exact c4, c5⟩
  · rw [setI_at, List.length_dropLast, nsub1 h0 (by omega)]
  · rw [List.length_dropLast] at hj
    rw [setI_no (by omega), setI_no (by omega), List.getElem?_dropLast, if_pos hj]
    exact c3 j (by omega)
theorem CAq.b1 {h : Hp} {l : List Int32} {n p : Nat} {x : Int32} (C : CAq h l n p) : CAq (fl_setI h 213 1 x) l n p := by
  obtain ⟨c1, c2, c3, c4, c5⟩ := C
  refine ⟨by rw [setI_no (by omega)]; exact c1, c2, fun j hj => ?_, by rw [setI_no (by omega)]; exact c4, c5⟩
  rw [setI_no (by omega), setI_no (by omega)]
  exact c3 j hj
theorem CAq.cl {h : Hp} {l : List Int32} {n p : Nat} (C : CAq h l n p) (hp : p ≤ 12) : CAq (fl_setI h 213 4 ((h.1 213 4) + (Int32.ofInt 1))) l (n + 1) (p + 1) := by
  obtain ⟨c1, c2, c3, c4, c5⟩ := C
  rw [c4]
  refine ⟨by rw [setI_no (by omega)]; exact c1, by omega, fun j hj => ?_, by rw [setI_at, o32 (by omega)], by omega⟩
  rw [setI_no (by omega), setI_no (by omega)]
  exact c3 j hj
theorem CAq.cm {h : Hp} {l : List Int32} {n p : Nat} (C : CAq h l (n + 1) p) (hp : p ≤ 13) : CAq (fl_setI h 213 4 ((h.1 213 4) - (Int32.ofInt 1))) l n p := by
  obtain ⟨c1, c2, c3, c4, c5⟩ := C
  rw [c4]
  refine ⟨by rw [setI_no (by omega)]; exact c1, by omega, fun j hj => ?_, by rw [setI_at, (nsub (by omega)).1], by omega⟩
  rw [setI_no (by omega), setI_no (by omega)]
  exact c3 j hj
theorem CAq.up {h : Hp} {l : List Int32} {n p q : Nat} (C : CAq h l n p) (hpq : p ≤ q) : CAq h l n q := ⟨C.1, Nat.le_trans C.2.1 hpq, C.2.2.1, C.2.2.2.1, Nat.le_trans C.2.2.2.2 hpq⟩
theorem CAq.dn {h : Hp} {l : List Int32} {n p q : Nat} (C : CAq h l n p) (h1 : l.length ≤ q) (h2 : n ≤ q) : CAq h l n q := ⟨C.1, h1, C.2.2.1, C.2.2.2.1, h2⟩

theorem k_ans_map {d c i kk : Nat} {h : Hp} {op b mo how ans : Int32} {f : KV} {r : Option Value × Hp × Nat} (S : SH h.2) (hc : c < 5) (hi : i < 8) (HD : ADT h c i op (Int32.ofNat kk) b mo how ans) (hk : (h.1 212 6).toInt = 0) (k32 : kk < 32) (h0 : how.toInt ≠ 0 → ans = Int32.ofInt 0) (C : CAk h f) (e : Ev d 114 (0, [some (.ref 212), some (.ref (152 + 12 * c + i))], [], h, fl_tot) r) : ∃ x : Int32, r = (some (.int x), h, fl_tot) ∧ (x.toInt ≠ 0 ↔ okMap op.toInt kk b how ans f) := by
  have hz : how.toInt ≠ 0 → ans.toInt = 0 := fun z => by rw [h0 z]; decide
  have i0 : (Int32.ofInt 0).toInt = 0 := by decide
  have i1 : (Int32.ofInt 1).toInt = 1 := by decide
  unfold okMap okKey
  cases hf : f kk with
  | none =>
    have Z := C.z0 k32 hf
    dsimp only [Option.getD]
    by_cases ho : op.toInt = 3
    · rw [if_pos ho]
      rcases y_ans_map S hc hi HD hk e with ⟨q0, q1, q2, q3, w⟩ | ⟨q0, q1, q2, q3, q4, w⟩ | ⟨q0, q1, q2, q3, q4, w⟩ | ⟨q0, q1, q2, q3, w⟩ | ⟨q0, q1, q2, q3, q4, w⟩ | ⟨q0, q1, q2, q3, q4, w⟩ | ⟨q0, q1, q2, q3, w⟩ | ⟨q0, q1, q2, q3, q4, w⟩ | ⟨q0, q1, q2, q3, q4, w⟩ | ⟨q0, q1, q2, q3, w⟩ | ⟨q0, q1, q2, q3, q4, w⟩ | ⟨q0, q1, q2, q3, q4, w⟩
      all_goals (refine ⟨_, w, ?_⟩; omega)
    · rw [if_neg ho]
      rcases y_ans_map S hc hi HD hk e with ⟨q0, q1, q2, q3, w⟩ | ⟨q0, q1, q2, q3, q4, w⟩ | ⟨q0, q1, q2, q3, q4, w⟩ | ⟨q0, q1, q2, q3, w⟩ | ⟨q0, q1, q2, q3, q4, w⟩ | ⟨q0, q1, q2, q3, q4, w⟩ | ⟨q0, q1, q2, q3, w⟩ | ⟨q0, q1, q2, q3, q4, w⟩ | ⟨q0, q1, q2, q3, q4, w⟩ | ⟨q0, q1, q2, q3, w⟩ | ⟨q0, q1, q2, q3, q4, w⟩ | ⟨q0, q1, q2, q3, q4, w⟩
      all_goals (refine ⟨_, w, ?_⟩; omega)
  | some v =>
    obtain ⟨Z, V⟩ := C.z1 k32 hf
    dsimp only [Option.getD]
    by_cases ho : op.toInt = 3
    · rw [if_pos ho]
      rcases y_ans_map S hc hi HD hk e with ⟨q0, q1, q2, q3, w⟩ | ⟨q0, q1, q2, q3, q4, w⟩ | ⟨q0, q1, q2, q3, q4, w⟩ | ⟨q0, q1, q2, q3, w⟩ | ⟨q0, q1, q2, q3, q4, w⟩ | ⟨q0, q1, q2, q3, q4, w⟩ | ⟨q0, q1, q2, q3, w⟩ | ⟨q0, q1, q2, q3, q4, w⟩ | ⟨q0, q1, q2, q3, q4, w⟩ | ⟨q0, q1, q2, q3, w⟩ | ⟨q0, q1, q2, q3, q4, w⟩ | ⟨q0, q1, q2, q3, q4, w⟩
      all_goals (refine ⟨_, w, ?_⟩; rw [← V]; omega)
    · rw [if_neg ho]
      rcases y_ans_map S hc hi HD hk e with ⟨q0, q1, q2, q3, w⟩ | ⟨q0, q1, q2, q3, q4, w⟩ | ⟨q0, q1, q2, q3, q4, w⟩ | ⟨q0, q1, q2, q3, w⟩ | ⟨q0, q1, q2, q3, q4, w⟩ | ⟨q0, q1, q2, q3, q4, w⟩ | ⟨q0, q1, q2, q3, w⟩ | ⟨q0, q1, q2, q3, q4, w⟩ | ⟨q0, q1, q2, q3, q4, w⟩ | ⟨q0, q1, q2, q3, w⟩ | ⟨q0, q1, q2, q3, q4, w⟩ | ⟨q0, q1, q2, q3, q4, w⟩
      all_goals (refine ⟨_, w, ?_⟩; rw [← V]; omega)

theorem wsf_eq {h : Hp} {f : KV} (C : CAk h f) : ∀ n : Nat, n ≤ 32 → wsum h 213 214 n = wsf f n := by
  intro n
  induction n with
  | zero => intro _; rfl
  | succ n ih =>
    intro hn
    have I := ih (by omega)
    have c := C n (by omega)
    unfold wsum wsf
    cases hf : f n with
    | none =>
      have hz := C.z0 (by omega) hf
      dsimp only
      rw [if_pos hz]
      exact I
    | some v =>
      obtain ⟨hz, hv⟩ := C.z1 (by omega) hf
      dsimp only
      have h2 := (C n (by omega)).2 v hf
      rw [if_neg hz, I, h2]

theorem k_ans_copies {d c i kk : Nat} {h : Hp} {op a b mo how ans : Int32} {f : KV} {r : Option Value × Hp × Nat} (S : SH h.2) (hc : c < 5) (hi : i < 8) (HD : ADT h c i op a b mo how ans) (hk : (h.1 212 6).toInt = 4) (ka : op.toInt ≠ 3 → a = Int32.ofNat kk ∧ kk < 32) (h0 : how.toInt ≠ 0 → ans = Int32.ofInt 0) (C : CAk h f) (e : Ev d 114 (0, [some (.ref 212), some (.ref (152 + 12 * c + i))], [], h, fl_tot) r) : ∃ x : Int32, r = (some (.int x), h, fl_tot) ∧ (x.toInt ≠ 0 ↔ okCop op.toInt kk how ans f) := by
  have hz : how.toInt ≠ 0 → ans.toInt = 0 := fun z => by rw [h0 z]; decide
  have i0 : (Int32.ofInt 0).toInt = 0 := by decide
  have i1 : (Int32.ofInt 1).toInt = 1 := by decide
  have W := wsf_eq C 32 (Nat.le_refl _)
  unfold okCop
  by_cases ho : op.toInt = 3
  · rw [if_pos ho, ← W]
    rcases y_ans_copies S hc hi HD hk e with ⟨q0, q1, q2, q3, q4, q5, q6, q7, w⟩ | ⟨q0, q1, q2, q3, q4, q5, q6, q7, q8, w⟩ | ⟨q0, q1, q2, q3, q4, q5, q6, q7, q8, w⟩ | ⟨q0, q1, q2, q3, q4, q5, q6, q7, w⟩ | ⟨q0, q1, q2, q3, q4, q5, q6, q7, q8, w⟩ | ⟨q0, q1, q2, q3, q4, q5, q6, q7, q8, w⟩ | ⟨q0, q1, q2, q3, q4, q5, q6, w⟩ | ⟨q0, q1, q2, q3, q4, q5, q6, q7, w⟩ | ⟨q0, q1, q2, q3, q4, q5, q6, q7, w⟩
    all_goals (refine ⟨_, w, ?_⟩; omega)
  · obtain ⟨rfl, k32⟩ := ka ho
    rw [if_neg ho]
    unfold okKey
    cases hf : f kk with
    | none =>
      have Z := C.z0 k32 hf
      dsimp only
      rcases y_ans_copies S hc hi HD hk e with ⟨q0, q1, q2, q3, q4, q5, q6, q7, w⟩ | ⟨q0, q1, q2, q3, q4, q5, q6, q7, q8, w⟩ | ⟨q0, q1, q2, q3, q4, q5, q6, q7, q8, w⟩ | ⟨q0, q1, q2, q3, q4, q5, q6, q7, w⟩ | ⟨q0, q1, q2, q3, q4, q5, q6, q7, q8, w⟩ | ⟨q0, q1, q2, q3, q4, q5, q6, q7, q8, w⟩ | ⟨q0, q1, q2, q3, q4, q5, q6, w⟩ | ⟨q0, q1, q2, q3, q4, q5, q6, q7, w⟩ | ⟨q0, q1, q2, q3, q4, q5, q6, q7, w⟩
      all_goals (refine ⟨_, w, ?_⟩; omega)
    | some v =>
      obtain ⟨Z, V⟩ := C.z1 k32 hf
      dsimp only
      rcases y_ans_copies S hc hi HD hk e with ⟨q0, q1, q2, q3, q4, q5, q6, q7, w⟩ | ⟨q0, q1, q2, q3, q4, q5, q6, q7, q8, w⟩ | ⟨q0, q1, q2, q3, q4, q5, q6, q7, q8, w⟩ | ⟨q0, q1, q2, q3, q4, q5, q6, q7, w⟩ | ⟨q0, q1, q2, q3, q4, q5, q6, q7, q8, w⟩ | ⟨q0, q1, q2, q3, q4, q5, q6, q7, q8, w⟩ | ⟨q0, q1, q2, q3, q4, q5, q6, w⟩ | ⟨q0, q1, q2, q3, q4, q5, q6, q7, w⟩ | ⟨q0, q1, q2, q3, q4, q5, q6, q7, w⟩
      all_goals (refine ⟨_, w, ?_⟩; rw [← V]; omega)

theorem k_ans_once {d c i kk : Nat} {h : Hp} {op b mo how ans : Int32} {f : KV} {r : Option Value × Hp × Nat} (S : SH h.2) (hc : c < 5) (hi : i < 8) (HD : ADT h c i op (Int32.ofNat kk) b mo how ans) (hk : (h.1 212 6).toInt = 5) (k32 : kk < 32) (C : CAk h f) (e : Ev d 114 (0, [some (.ref 212), some (.ref (152 + 12 * c + i))], [], h, fl_tot) r) : ∃ x : Int32, r = (some (.int x), h, fl_tot) ∧ (x.toInt ≠ 0 ↔ okOnc kk how ans (((Int32.ofInt 1000) * ((Int32.ofNat c) + (Int32.ofInt 1))) + (Int32.ofNat i)) f) := by
  have i0 : (Int32.ofInt 0).toInt = 0 := by decide
  have i1 : (Int32.ofInt 1).toInt = 1 := by decide
  unfold okOnc
  cases hf : f kk with
  | none =>
    have Z := C.z0 k32 hf
    rcases y_ans_once S hc hi HD hk e with ⟨q0, q1, q2, q3, q4, q5, q6, w⟩ | ⟨q0, q1, q2, q3, q4, q5, q6, w⟩ | ⟨q0, q1, q2, q3, q4, q5, q6, q7, w⟩ | ⟨q0, q1, q2, q3, q4, q5, q6, q7, q8, w⟩ | ⟨q0, q1, q2, q3, q4, q5, q6, q7, q8, w⟩ | ⟨q0, q1, q2, q3, q4, q5, q6, q7, q8, q9, q10, w⟩ | ⟨q0, q1, q2, q3, q4, q5, q6, q7, q8, q9, q10, w⟩ | ⟨q0, q1, q2, q3, q4, q5, q6, q7, q8, w⟩ | ⟨q0, q1, q2, q3, q4, q5, q6, q7, q8, w⟩
    all_goals (refine ⟨_, w, ?_⟩; dsimp only; omega)
  | some v =>
    obtain ⟨Z, V⟩ := C.z1 k32 hf
    rcases y_ans_once S hc hi HD hk e with ⟨q0, q1, q2, q3, q4, q5, q6, w⟩ | ⟨q0, q1, q2, q3, q4, q5, q6, w⟩ | ⟨q0, q1, q2, q3, q4, q5, q6, q7, w⟩ | ⟨q0, q1, q2, q3, q4, q5, q6, q7, q8, w⟩ | ⟨q0, q1, q2, q3, q4, q5, q6, q7, q8, w⟩ | ⟨q0, q1, q2, q3, q4, q5, q6, q7, q8, q9, q10, w⟩ | ⟨q0, q1, q2, q3, q4, q5, q6, q7, q8, q9, q10, w⟩ | ⟨q0, q1, q2, q3, q4, q5, q6, q7, q8, w⟩ | ⟨q0, q1, q2, q3, q4, q5, q6, q7, q8, w⟩
    all_goals (refine ⟨_, w, ?_⟩; dsimp only; rw [← V]; omega)

theorem k_ans_queue {d c i p n : Nat} {h : Hp} {op a b mo how ans : Int32} {l : List Int32} {r : Option Value × Hp × Nat} (S : SH h.2) (hc : c < 5) (hi : i < 8) (HD : ADT h c i op a b mo how ans) (hk : (h.1 212 6).toInt = 1) (hp : p ≤ 12) (h0 : how.toInt ≠ 0 → ans = Int32.ofInt 0) (C : CAq h l n p) (e : Ev d 114 (0, [some (.ref 212), some (.ref (152 + 12 * c + i))], [], h, fl_tot) r) : ∃ x : Int32, r = (some (.int x), h, fl_tot) ∧ (x.toInt ≠ 0 ↔ okQ op.toInt a how ans l) := by
  have hz : how.toInt ≠ 0 → ans.toInt = 0 := fun z => by rw [h0 z]; decide
  have i0 : (Int32.ofInt 0).toInt = 0 := by decide
  have i1 : (Int32.ofInt 1).toInt = 1 := by decide
  have L := C.ln hp
  have c3 := C.2.2.1
  have c2 := C.2.1
  unfold okQ
  by_cases hl : l.length = 0
  · rw [if_pos hl]
    by_cases ho : op.toInt = 0
    · rw [if_pos ho]
      rcases y_ans_queue S hc hi HD hk e with ⟨q0, q1, q2, q3, q4, w⟩ | ⟨q0, q1, q2, q3, q4, q5, w⟩ | ⟨q0, q1, q2, q3, q4, q5, w⟩ | ⟨q0, q1, q2, q3, q4, w⟩ | ⟨q0, q1, q2, q3, q4, q5, w⟩ | ⟨q0, q1, q2, q3, q4, q5, w⟩ | ⟨q0, q1, q2, q3, w⟩ | ⟨q0, q1, q2, q3, q4, w⟩ | ⟨q0, q1, q2, q3, q4, w⟩
      all_goals (refine ⟨_, w, ?_⟩; omega)
    · rw [if_neg ho]
      rcases y_ans_queue S hc hi HD hk e with ⟨q0, q1, q2, q3, q4, w⟩ | ⟨q0, q1, q2, q3, q4, q5, w⟩ | ⟨q0, q1, q2, q3, q4, q5, w⟩ | ⟨q0, q1, q2, q3, q4, w⟩ | ⟨q0, q1, q2, q3, q4, q5, w⟩ | ⟨q0, q1, q2, q3, q4, q5, w⟩ | ⟨q0, q1, q2, q3, w⟩ | ⟨q0, q1, q2, q3, q4, w⟩ | ⟨q0, q1, q2, q3, q4, w⟩
      all_goals (refine ⟨_, w, ?_⟩; omega)
  · rw [if_neg hl]
    have e0 := c3 0 (by omega)
    rw [rg0] at e0
    have e9 := c3 (l.length - 1) (by omega)
    rw [← rg_last (by omega) (by omega), ← C.1] at e9
    rw [e0]
    dsimp only [Option.getD]
    by_cases ho : op.toInt = 0
    · rw [if_pos ho]
      rcases y_ans_queue S hc hi HD hk e with ⟨q0, q1, q2, q3, q4, w⟩ | ⟨q0, q1, q2, q3, q4, q5, w⟩ | ⟨q0, q1, q2, q3, q4, q5, w⟩ | ⟨q0, q1, q2, q3, q4, w⟩ | ⟨q0, q1, q2, q3, q4, q5, w⟩ | ⟨q0, q1, q2, q3, q4, q5, w⟩ | ⟨q0, q1, q2, q3, w⟩ | ⟨q0, q1, q2, q3, q4, w⟩ | ⟨q0, q1, q2, q3, q4, w⟩
      all_goals (refine ⟨_, w, ?_⟩; omega)
    · rw [if_neg ho]
      rcases y_ans_queue S hc hi HD hk e with ⟨q0, q1, q2, q3, q4, w⟩ | ⟨q0, q1, q2, q3, q4, q5, w⟩ | ⟨q0, q1, q2, q3, q4, q5, w⟩ | ⟨q0, q1, q2, q3, q4, w⟩ | ⟨q0, q1, q2, q3, q4, q5, w⟩ | ⟨q0, q1, q2, q3, q4, q5, w⟩ | ⟨q0, q1, q2, q3, w⟩ | ⟨q0, q1, q2, q3, q4, w⟩ | ⟨q0, q1, q2, q3, q4, w⟩
      all_goals (refine ⟨_, w, ?_⟩; omega)

set_option maxHeartbeats 4000000 in
theorem k_ans_deque {d c i p n : Nat} {h : Hp} {op a b mo how ans : Int32} {l : List Int32} {r : Option Value × Hp × Nat} (S : SH h.2) (hc : c < 5) (hi : i < 8) (HD : ADT h c i op a b mo how ans) (hk : (h.1 212 6).toInt = 2) (hp : p ≤ 12) (h0 : how.toInt ≠ 0 → ans = Int32.ofInt 0) (ho4 : 0 ≤ op.toInt ∧ op.toInt ≤ 4) (C : CAq h l n p) (e : Ev d 114 (0, [some (.ref 212), some (.ref (152 + 12 * c + i))], [], h, fl_tot) r) : ∃ x : Int32, r = (some (.int x), h, fl_tot) ∧ (x.toInt ≠ 0 ↔ okD op.toInt a how ans (h.1 212 7).toInt l n) := by
  have hz : how.toInt ≠ 0 → ans.toInt = 0 := fun z => by rw [h0 z]; decide
  have i0 : (Int32.ofInt 0).toInt = 0 := by decide
  have i1 : (Int32.ofInt 1).toInt = 1 := by decide
  have L := C.ln hp
  have c3 := C.2.2.1
  have c2 := C.2.1
  unfold okD
  by_cases hl : l.length = 0
  · simp only [if_pos hl]
    have D : op.toInt = 4 ∨ op.toInt < 2 ∨ (op.toInt ≠ 4 ∧ ¬ op.toInt < 2) := by omega
    rcases D with ho | ho | ⟨ho, ho2⟩
    · rw [if_pos ho]
      rcases y_ans_deque S hc hi HD hk e with ⟨q0, q1, q2, q3, q4, q5, w⟩ | ⟨q0, q1, q2, q3, q4, q5, q6, w⟩ | ⟨q0, q1, q2, q3, q4, q5, q6, q7, w⟩ | ⟨q0, q1, q2, q3, q4, q5, q6, q7, w⟩ | ⟨q0, q1, q2, q3, q4, q5, q6, w⟩ | ⟨q0, q1, q2, q3, q4, q5, q6, q7, w⟩ | ⟨q0, q1, q2, q3, q4, q5, q6, q7, q8, w⟩ | ⟨q0, q1, q2, q3, q4, q5, q6, q7, q8, w⟩ | ⟨q0, q1, q2, q3, q4, q5, q6, q7, q8, q9, w⟩ | ⟨q0, q1, q2, q3, q4, q5, q6, q7, q8, q9, q10, w⟩ | ⟨q0, q1, q2, q3, q4, q5, q6, q7, q8, q9, q10, w⟩ | ⟨q0, q1, q2, q3, q4, q5, q6, q7, w⟩ | ⟨q0, q1, q2, q3, q4, q5, q6, q7, q8, q9, q10, w⟩ | ⟨q0, q1, q2, q3, q4, q5, q6, q7, q8, q9, q10, q11, w⟩ | ⟨q0, q1, q2, q3, q4, q5, q6, q7, q8, q9, q10, q11, w⟩ | ⟨q0, q1, q2, q3, q4, q5, q6, q7, q8, w⟩ | ⟨q0, q1, q2, q3, q4, q5, q6, q7, q8, q9, w⟩ | ⟨q0, q1, q2, q3, q4, q5, q6, q7, q8, q9, q10, w⟩ | ⟨q0, q1, q2, q3, q4, q5, q6, q7, q8, q9, q10, w⟩ | ⟨q0, q1, q2, q3, q4, q5, q6, q7, q8, q9, q10, q11, w⟩ | ⟨q0, q1, q2, q3, q4, q5, q6, q7, q8, q9, q10, q11, q12, w⟩ | ⟨q0, q1, q2, q3, q4, q5, q6, q7, q8, q9, q10, q11, q12, w⟩ | ⟨q0, q1, q2, q3, q4, q5, q6, q7, q8, q9, q10, q11, w⟩ | ⟨q0, q1, q2, q3, q4, q5, q6, q7, q8, q9, q10, q11, q12, w⟩ | ⟨q0, q1, q2, q3, q4, q5, q6, q7, q8, q9, q10, q11, q12, w⟩ | ⟨q0, q1, q2, q3, q4, q5, q6, q7, q8, q9, w⟩ | ⟨q0, q1, q2, q3, q4, q5, w⟩ | ⟨q0, q1, q2, q3, q4, q5, q6, w⟩ | ⟨q0, q1, q2, q3, q4, q5, q6, w⟩ | ⟨q0, q1, q2, q3, q4, q5, q6, w⟩ | ⟨q0, q1, q2, q3, q4, q5, q6, q7, w⟩ | ⟨q0, q1, q2, q3, q4, q5, q6, q7, w⟩ | ⟨q0, q1, q2, q3, q4, q5, q6, q7, q8, q9, w⟩ | ⟨q0, q1, q2, q3, q4, q5, q6, q7, q8, q9, q10, w⟩ | ⟨q0, q1, q2, q3, q4, q5, q6, q7, q8, q9, q10, w⟩ | ⟨q0, q1, q2, q3, q4, q5, q6, q7, q8, w⟩ | ⟨q0, q1, q2, q3, q4, q5, q6, q7, q8, q9, w⟩ | ⟨q0, q1, q2, q3, q4, q5, q6, q7, q8, q9, w⟩ | ⟨q0, q1, q2, q3, q4, q5, q6, q7, q8, q9, q10, w⟩ | ⟨q0, q1, q2, q3, q4, q5, q6, q7, q8, q9, q10, q11, w⟩ | ⟨q0, q1, q2, q3, q4, q5, q6, q7, q8, q9, q10, q11, w⟩ | ⟨q0, q1, q2, q3, q4, q5, q6, q7, q8, q9, w⟩ | ⟨q0, q1, q2, q3, q4, q5, q6, q7, q8, q9, q10, w⟩ | ⟨q0, q1, q2, q3, q4, q5, q6, q7, q8, q9, q10, w⟩ | ⟨q0, q1, q2, q3, q4, q5, q6, q7, q8, q9, w⟩ | ⟨q0, q1, q2, q3, q4, q5, q6, q7, q8, q9, q10, w⟩ | ⟨q0, q1, q2, q3, q4, q5, q6, q7, q8, q9, q10, w⟩ | ⟨q0, q1, q2, q3, q4, q5, q6, q7, q8, q9, q10, q11, w⟩ | ⟨q0, q1, q2, q3, q4, q5, q6, q7, q8, q9, q10, q11, q12, w⟩ | ⟨q0, q1, q2, q3, q4, q5, q6, q7, q8, q9, q10, q11, q12, w⟩ | ⟨q0, q1, q2, q3, q4, q5, q6, q7, q8, q9, q10, q11, w⟩ | ⟨q0, q1, q2, q3, q4, q5, q6, q7, q8, q9, q10, q11, q12, w⟩ | ⟨q0, q1, q2, q3, q4, q5, q6, q7, q8, q9, q10, q11, q12, w⟩ | ⟨q0, q1, q2, q3, q4, q5, q6, q7, q8, q9, q10, w⟩ | ⟨q0, q1, q2, q3, q4, q5, q6, q7, q8, q9, q10, q11, w⟩ | ⟨q0, q1, q2, q3, q4, q5, q6, q7, q8, q9, q10, q11, w⟩
      all_goals (refine ⟨_, w, ?_⟩; omega)
    · rw [if_neg (show ¬ op.toInt = 4 by omega), if_pos ho]
      by_cases hn : 0 < n
      · rw [if_pos hn]
        rcases y_ans_deque S hc hi HD hk e with ⟨q0, q1, q2, q3, q4, q5, w⟩ | ⟨q0, q1, q2, q3, q4, q5, q6, w⟩ | ⟨q0, q1, q2, q3, q4, q5, q6, q7, w⟩ | ⟨q0, q1, q2, q3, q4, q5, q6, q7, w⟩ | ⟨q0, q1, q2, q3, q4, q5, q6, w⟩ | ⟨q0, q1, q2, q3, q4, q5, q6, q7, w⟩ | ⟨q0, q1, q2, q3, q4, q5, q6, q7, q8, w⟩ | ⟨q0, q1, q2, q3, q4, q5, q6, q7, q8, w⟩ | ⟨q0, q1, q2, q3, q4, q5, q6, q7, q8, q9, w⟩ | ⟨q0, q1, q2, q3, q4, q5, q6, q7, q8, q9, q10, w⟩ | ⟨q0, q1, q2, q3, q4, q5, q6, q7, q8, q9, q10, w⟩ | ⟨q0, q1, q2, q3, q4, q5, q6, q7, w⟩ | ⟨q0, q1, q2, q3, q4, q5, q6, q7, q8, q9, q10, w⟩ | ⟨q0, q1, q2, q3, q4, q5, q6, q7, q8, q9, q10, q11, w⟩ | ⟨q0, q1, q2, q3, q4, q5, q6, q7, q8, q9, q10, q11, w⟩ | ⟨q0, q1, q2, q3, q4, q5, q6, q7, q8, w⟩ | ⟨q0, q1, q2, q3, q4, q5, q6, q7, q8, q9, w⟩ | ⟨q0, q1, q2, q3, q4, q5, q6, q7, q8, q9, q10, w⟩ | ⟨q0, q1, q2, q3, q4, q5, q6, q7, q8, q9, q10, w⟩ | ⟨q0, q1, q2, q3, q4, q5, q6, q7, q8, q9, q10, q11, w⟩ | ⟨q0, q1, q2, q3, q4, q5, q6, q7, q8, q9, q10, q11, q12, w⟩ | ⟨q0, q1, q2, q3, q4, q5, q6, q7, q8, q9, q10, q11, q12, w⟩ | ⟨q0, q1, q2, q3, q4, q5, q6, q7, q8, q9, q10, q11, w⟩ | ⟨q0, q1, q2, q3, q4, q5, q6, q7, q8, q9, q10, q11, q12, w⟩ | ⟨q0, q1, q2, q3, q4, q5, q6, q7, q8, q9, q10, q11, q12, w⟩ | ⟨q0, q1, q2, q3, q4, q5, q6, q7, q8, q9, w⟩ | ⟨q0, q1, q2, q3, q4, q5, w⟩ | ⟨q0, q1, q2, q3, q4, q5, q6, w⟩ | ⟨q0, q1, q2, q3, q4, q5, q6, w⟩ | ⟨q0, q1, q2, q3, q4, q5, q6, w⟩ | ⟨q0, q1, q2, q3, q4, q5, q6, q7, w⟩ | ⟨q0, q1, q2, q3, q4, q5, q6, q7, w⟩ | ⟨q0, q1, q2, q3, q4, q5, q6, q7, q8, q9, w⟩ | ⟨q0, q1, q2, q3, q4, q5, q6, q7, q8, q9, q10, w⟩ | ⟨q0, q1, q2, q3, q4, q5, q6, q7, q8, q9, q10, w⟩ | ⟨q0, q1, q2, q3, q4, q5, q6, q7, q8, w⟩ | ⟨q0, q1, q2, q3, q4, q5, q6, q7, q8, q9, w⟩ | ⟨q0, q1, q2, q3, q4, q5, q6, q7, q8, q9, w⟩ | ⟨q0, q1, q2, q3, q4, q5, q6, q7, q8, q9, q10, w⟩ | ⟨q0, q1, q2, q3, q4, q5, q6, q7, q8, q9, q10, q11, w⟩ | ⟨q0, q1, q2, q3, q4, q5, q6, q7, q8, q9, q10, q11, w⟩ | ⟨q0, q1, q2, q3, q4, q5, q6, q7, q8, q9, w⟩ | ⟨q0, q1, q2, q3, q4, q5, q6, q7, q8, q9, q10, w⟩ | ⟨q0, q1, q2, q3, q4, q5, q6, q7, q8, q9, q10, w⟩ | ⟨q0, q1, q2, q3, q4, q5, q6, q7, q8, q9, w⟩ | ⟨q0, q1, q2, q3, q4, q5, q6, q7, q8, q9, q10, w⟩ | ⟨q0, q1, q2, q3, q4, q5, q6, q7, q8, q9, q10, w⟩ | ⟨q0, q1, q2, q3, q4, q5, q6, q7, q8, q9, q10, q11, w⟩ | ⟨q0, q1, q2, q3, q4, q5, q6, q7, q8, q9, q10, q11, q12, w⟩ | ⟨q0, q1, q2, q3, q4, q5, q6, q7, q8, q9, q10, q11, q12, w⟩ | ⟨q0, q1, q2, q3, q4, q5, q6, q7, q8, q9, q10, q11, w⟩ | ⟨q0, q1, q2, q3, q4, q5, q6, q7, q8, q9, q10, q11, q12, w⟩ | ⟨q0, q1, q2, q3, q4, q5, q6, q7, q8, q9, q10, q11, q12, w⟩ | ⟨q0, q1, q2, q3, q4, q5, q6, q7, q8, q9, q10, w⟩ | ⟨q0, q1, q2, q3, q4, q5, q6, q7, q8, q9, q10, q11, w⟩ | ⟨q0, q1, q2, q3, q4, q5, q6, q7, q8, q9, q10, q11, w⟩
        all_goals (refine ⟨_, w, ?_⟩; omega)
      · rw [if_neg hn]
        rcases y_ans_deque S hc hi HD hk e with ⟨q0, q1, q2, q3, q4, q5, w⟩ | ⟨q0, q1, q2, q3, q4, q5, q6, w⟩ | ⟨q0, q1, q2, q3, q4, q5, q6, q7, w⟩ | ⟨q0, q1, q2, q3, q4, q5, q6, q7, w⟩ | ⟨q0, q1, q2, q3, q4, q5, q6, w⟩ | ⟨q0, q1, q2, q3, q4, q5, q6, q7, w⟩ | ⟨q0, q1, q2, q3, q4, q5, q6, q7, q8, w⟩ | ⟨q0, q1, q2, q3, q4, q5, q6, q7, q8, w⟩ | ⟨q0, q1, q2, q3, q4, q5, q6, q7, q8, q9, w⟩ | ⟨q0, q1, q2, q3, q4, q5, q6, q7, q8, q9, q10, w⟩ | ⟨q0, q1, q2, q3, q4, q5, q6, q7, q8, q9, q10, w⟩ | ⟨q0, q1, q2, q3, q4, q5, q6, q7, w⟩ | ⟨q0, q1, q2, q3, q4, q5, q6, q7, q8, q9, q10, w⟩ | ⟨q0, q1, q2, q3, q4, q5, q6, q7, q8, q9, q10, q11, w⟩ | ⟨q0, q1, q2, q3, q4, q5, q6, q7, q8, q9, q10, q11, w⟩ | ⟨q0, q1, q2, q3, q4, q5, q6, q7, q8, w⟩ | ⟨q0, q1, q2, q3, q4, q5, q6, q7, q8, q9, w⟩ | ⟨q0, q1, q2, q3, q4, q5, q6, q7, q8, q9, q10, w⟩ | ⟨q0, q1, q2, q3, q4, q5, q6, q7, q8, q9, q10, w⟩ | ⟨q0, q1, q2, q3, q4, q5, q6, q7, q8, q9, q10, q11, w⟩ | ⟨q0, q1, q2, q3, q4, q5, q6, q7, q8, q9, q10, q11, q12, w⟩ | ⟨q0, q1, q2, q3, q4, q5, q6, q7, q8, q9, q10, q11, q12, w⟩ | ⟨q0, q1, q2, q3, q4, q5, q6, q7, q8, q9, q10, q11, w⟩ | ⟨q0, q1, q2, q3, q4, q5, q6, q7, q8, q9, q10, q11, q12, w⟩ | ⟨q0, q1, q2, q3, q4, q5, q6, q7, q8, q9, q10, q11, q12, w⟩ | ⟨q0, q1, q2, q3, q4, q5, q6, q7, q8, q9, w⟩ | ⟨q0, q1, q2, q3, q4, q5, w⟩ | ⟨q0, q1, q2, q3, q4, q5, q6, w⟩ | ⟨q0, q1, q2, q3, q4, q5, q6, w⟩ | ⟨q0, q1, q2, q3, q4, q5, q6, w⟩ | ⟨q0, q1, q2, q3, q4, q5, q6, q7, w⟩ | ⟨q0, q1, q2, q3, q4, q5, q6, q7, w⟩ | ⟨q0, q1, q2, q3, q4, q5, q6, q7, q8, q9, w⟩ | ⟨q0, q1, q2, q3, q4, q5, q6, q7, q8, q9, q10, w⟩ | ⟨q0, q1, q2, q3, q4, q5, q6, q7, q8, q9, q10, w⟩ | ⟨q0, q1, q2, q3, q4, q5, q6, q7, q8, w⟩ | ⟨q0, q1, q2, q3, q4, q5, q6, q7, q8, q9, w⟩ | ⟨q0, q1, q2, q3, q4, q5, q6, q7, q8, q9, w⟩ | ⟨q0, q1, q2, q3, q4, q5, q6, q7, q8, q9, q10, w⟩ | ⟨q0, q1, q2, q3, q4, q5, q6, q7, q8, q9, q10, q11, w⟩ | ⟨q0, q1, q2, q3, q4, q5, q6, q7, q8, q9, q10, q11, w⟩ | ⟨q0, q1, q2, q3, q4, q5, q6, q7, q8, q9, w⟩ | ⟨q0, q1, q2, q3, q4, q5, q6, q7, q8, q9, q10, w⟩ | ⟨q0, q1, q2, q3, q4, q5, q6, q7, q8, q9, q10, w⟩ | ⟨q0, q1, q2, q3, q4, q5, q6, q7, q8, q9, w⟩ | ⟨q0, q1, q2, q3, q4, q5, q6, q7, q8, q9, q10, w⟩ | ⟨q0, q1, q2, q3, q4, q5, q6, q7, q8, q9, q10, w⟩ | ⟨q0, q1, q2, q3, q4, q5, q6, q7, q8, q9, q10, q11, w⟩ | ⟨q0, q1, q2, q3, q4, q5, q6, q7, q8, q9, q10, q11, q12, w⟩ | ⟨q0, q1, q2, q3, q4, q5, q6, q7, q8, q9, q10, q11, q12, w⟩ | ⟨q0, q1, q2, q3, q4, q5, q6, q7, q8, q9, q10, q11, w⟩ | ⟨q0, q1, q2, q3, q4, q5, q6, q7, q8, q9, q10, q11, q12, w⟩ | ⟨q0, q1, q2, q3, q4, q5, q6, q7, q8, q9, q10, q11, q12, w⟩ | ⟨q0, q1, q2, q3, q4, q5, q6, q7, q8, q9, q10, w⟩ | ⟨q0, q1, q2, q3, q4, q5, q6, q7, q8, q9, q10, q11, w⟩ | ⟨q0, q1, q2, q3, q4, q5, q6, q7, q8, q9, q10, q11, w⟩
        all_goals (refine ⟨_, w, ?_⟩; omega)
    · rw [if_neg ho, if_neg ho2]
      rcases y_ans_deque S hc hi HD hk e with ⟨q0, q1, q2, q3, q4, q5, w⟩ | ⟨q0, q1, q2, q3, q4, q5, q6, w⟩ | ⟨q0, q1, q2, q3, q4, q5, q6, q7, w⟩ | ⟨q0, q1, q2, q3, q4, q5, q6, q7, w⟩ | ⟨q0, q1, q2, q3, q4, q5, q6, w⟩ | ⟨q0, q1, q2, q3, q4, q5, q6, q7, w⟩ | ⟨q0, q1, q2, q3, q4, q5, q6, q7, q8, w⟩ | ⟨q0, q1, q2, q3, q4, q5, q6, q7, q8, w⟩ | ⟨q0, q1, q2, q3, q4, q5, q6, q7, q8, q9, w⟩ | ⟨q0, q1, q2, q3, q4, q5, q6, q7, q8, q9, q10, w⟩ | ⟨q0, q1, q2, q3, q4, q5, q6, q7, q8, q9, q10, w⟩ | ⟨q0, q1, q2, q3, q4, q5, q6, q7, w⟩ | ⟨q0, q1, q2, q3, q4, q5, q6, q7, q8, q9, q10, w⟩ | ⟨q0, q1, q2, q3, q4, q5, q6, q7, q8, q9, q10, q11, w⟩ | ⟨q0, q1, q2, q3, q4, q5, q6, q7, q8, q9, q10, q11, w⟩ | ⟨q0, q1, q2, q3, q4, q5, q6, q7, q8, w⟩ | ⟨q0, q1, q2, q3, q4, q5, q6, q7, q8, q9, w⟩ | ⟨q0, q1, q2, q3, q4, q5, q6, q7, q8, q9, q10, w⟩ | ⟨q0, q1, q2, q3, q4, q5, q6, q7, q8, q9, q10, w⟩ | ⟨q0, q1, q2, q3, q4, q5, q6, q7, q8, q9, q10, q11, w⟩ | ⟨q0, q1, q2, q3, q4, q5, q6, q7, q8, q9, q10, q11, q12, w⟩ | ⟨q0, q1, q2, q3, q4, q5, q6, q7, q8, q9, q10, q11, q12, w⟩ | ⟨q0, q1, q2, q3, q4, q5, q6, q7, q8, q9, q10, q11, w⟩ | ⟨q0, q1, q2, q3, q4, q5, q6, q7, q8, q9, q10, q11, q12, w⟩ | ⟨q0, q1, q2, q3, q4, q5, q6, q7, q8, q9, q10, q11, q12, w⟩ | ⟨q0, q1, q2, q3, q4, q5, q6, q7, q8, q9, w⟩ | ⟨q0, q1, q2, q3, q4, q5, w⟩ | ⟨q0, q1, q2, q3, q4, q5, q6, w⟩ | ⟨q0, q1, q2, q3, q4, q5, q6, w⟩ | ⟨q0, q1, q2, q3, q4, q5, q6, w⟩ | ⟨q0, q1, q2, q3, q4, q5, q6, q7, w⟩ | ⟨q0, q1, q2, q3, q4, q5, q6, q7, w⟩ | ⟨q0, q1, q2, q3, q4, q5, q6, q7, q8, q9, w⟩ | ⟨q0, q1, q2, q3, q4, q5, q6, q7, q8, q9, q10, w⟩ | ⟨q0, q1, q2, q3, q4, q5, q6, q7, q8, q9, q10, w⟩ | ⟨q0, q1, q2, q3, q4, q5, q6, q7, q8, w⟩ | ⟨q0, q1, q2, q3, q4, q5, q6, q7, q8, q9, w⟩ | ⟨q0, q1, q2, q3, q4, q5, q6, q7, q8, q9, w⟩ | ⟨q0, q1, q2, q3, q4, q5, q6, q7, q8, q9, q10, w⟩ | ⟨q0, q1, q2, q3, q4, q5, q6, q7, q8, q9, q10, q11, w⟩ | ⟨q0, q1, q2, q3, q4, q5, q6, q7, q8, q9, q10, q11, w⟩ | ⟨q0, q1, q2, q3, q4, q5, q6, q7, q8, q9, w⟩ | ⟨q0, q1, q2, q3, q4, q5, q6, q7, q8, q9, q10, w⟩ | ⟨q0, q1, q2, q3, q4, q5, q6, q7, q8, q9, q10, w⟩ | ⟨q0, q1, q2, q3, q4, q5, q6, q7, q8, q9, w⟩ | ⟨q0, q1, q2, q3, q4, q5, q6, q7, q8, q9, q10, w⟩ | ⟨q0, q1, q2, q3, q4, q5, q6, q7, q8, q9, q10, w⟩ | ⟨q0, q1, q2, q3, q4, q5, q6, q7, q8, q9, q10, q11, w⟩ | ⟨q0, q1, q2, q3, q4, q5, q6, q7, q8, q9, q10, q11, q12, w⟩ | ⟨q0, q1, q2, q3, q4, q5, q6, q7, q8, q9, q10, q11, q12, w⟩ | ⟨q0, q1, q2, q3, q4, q5, q6, q7, q8, q9, q10, q11, w⟩ | ⟨q0, q1, q2, q3, q4, q5, q6, q7, q8, q9, q10, q11, q12, w⟩ | ⟨q0, q1, q2, q3, q4, q5, q6, q7, q8, q9, q10, q11, q12, w⟩ | ⟨q0, q1, q2, q3, q4, q5, q6, q7, q8, q9, q10, w⟩ | ⟨q0, q1, q2, q3, q4, q5, q6, q7, q8, q9, q10, q11, w⟩ | ⟨q0, q1, q2, q3, q4, q5, q6, q7, q8, q9, q10, q11, w⟩
      all_goals (refine ⟨_, w, ?_⟩; omega)
  · simp only [if_neg hl]
    have e0 := c3 0 (by omega)
    rw [rg0] at e0
    have e9 := c3 (l.length - 1) (by omega)
    rw [← rg_last (by omega) (by omega), ← C.1] at e9
    have D : op.toInt = 4 ∨ op.toInt < 2 ∨ op.toInt = 2 ∨ op.toInt = 3 := by omega
    rcases D with ho | ho | ho | ho
    · rw [if_pos ho]
      rcases y_ans_deque S hc hi HD hk e with ⟨q0, q1, q2, q3, q4, q5, w⟩ | ⟨q0, q1, q2, q3, q4, q5, q6, w⟩ | ⟨q0, q1, q2, q3, q4, q5, q6, q7, w⟩ | ⟨q0, q1, q2, q3, q4, q5, q6, q7, w⟩ | ⟨q0, q1, q2, q3, q4, q5, q6, w⟩ | ⟨q0, q1, q2, q3, q4, q5, q6, q7, w⟩ | ⟨q0, q1, q2, q3, q4, q5, q6, q7, q8, w⟩ | ⟨q0, q1, q2, q3, q4, q5, q6, q7, q8, w⟩ | ⟨q0, q1, q2, q3, q4, q5, q6, q7, q8, q9, w⟩ | ⟨q0, q1, q2, q3, q4, q5, q6, q7, q8, q9, q10, w⟩ | ⟨q0, q1, q2, q3, q4, q5, q6, q7, q8, q9, q10, w⟩ | ⟨q0, q1, q2, q3, q4, q5, q6, q7, w⟩ | ⟨q0, q1, q2, q3, q4, q5, q6, q7, q8, q9, q10, w⟩ | ⟨q0, q1, q2, q3, q4, q5, q6, q7, q8, q9, q10, q11, w⟩ | ⟨q0, q1, q2, q3, q4, q5, q6, q7, q8, q9, q10, q11, w⟩ | ⟨q0, q1, q2, q3, q4, q5, q6, q7, q8, w⟩ | ⟨q0, q1, q2, q3, q4, q5, q6, q7, q8, q9, w⟩ | ⟨q0, q1, q2, q3, q4, q5, q6, q7, q8, q9, q10, w⟩ | ⟨q0, q1, q2, q3, q4, q5, q6, q7, q8, q9, q10, w⟩ | ⟨q0, q1, q2, q3, q4, q5, q6, q7, q8, q9, q10, q11, w⟩ | ⟨q0, q1, q2, q3, q4, q5, q6, q7, q8, q9, q10, q11, q12, w⟩ | ⟨q0, q1, q2, q3, q4, q5, q6, q7, q8, q9, q10, q11, q12, w⟩ | ⟨q0, q1, q2, q3, q4, q5, q6, q7, q8, q9, q10, q11, w⟩ | ⟨q0, q1, q2, q3, q4, q5, q6, q7, q8, q9, q10, q11, q12, w⟩ | ⟨q0, q1, q2, q3, q4, q5, q6, q7, q8, q9, q10, q11, q12, w⟩ | ⟨q0, q1, q2, q3, q4, q5, q6, q7, q8, q9, w⟩ | ⟨q0, q1, q2, q3, q4, q5, w⟩ | ⟨q0, q1, q2, q3, q4, q5, q6, w⟩ | ⟨q0, q1, q2, q3, q4, q5, q6, w⟩ | ⟨q0, q1, q2, q3, q4, q5, q6, w⟩ | ⟨q0, q1, q2, q3, q4, q5, q6, q7, w⟩ | ⟨q0, q1, q2, q3, q4, q5, q6, q7, w⟩ | ⟨q0, q1, q2, q3, q4, q5, q6, q7, q8, q9, w⟩ | ⟨q0, q1, q2, q3, q4, q5, q6, q7, q8, q9, q10, w⟩ | ⟨q0, q1, q2, q3, q4, q5, q6, q7, q8, q9, q10, w⟩ | ⟨q0, q1, q2, q3, q4, q5, q6, q7, q8, w⟩ | ⟨q0, q1, q2, q3, q4, q5, q6, q7, q8, q9, w⟩ | ⟨q0, q1, q2, q3, q4, q5, q6, q7, q8, q9, w⟩ | ⟨q0, q1, q2, q3, q4, q5, q6, q7, q8, q9, q10, w⟩ | ⟨q0, q1, q2, q3, q4, q5, q6, q7, q8, q9, q10, q11, w⟩ | ⟨q0, q1, q2, q3, q4, q5, q6, q7, q8, q9, q10, q11, w⟩ | ⟨q0, q1, q2, q3, q4, q5, q6, q7, q8, q9, w⟩ | ⟨q0, q1, q2, q3, q4, q5, q6, q7, q8, q9, q10, w⟩ | ⟨q0, q1, q2, q3, q4, q5, q6, q7, q8, q9, q10, w⟩ | ⟨q0, q1, q2, q3, q4, q5, q6, q7, q8, q9, w⟩ | ⟨q0, q1, q2, q3, q4, q5, q6, q7, q8, q9, q10, w⟩ | ⟨q0, q1, q2, q3, q4, q5, q6, q7, q8, q9, q10, w⟩ | ⟨q0, q1, q2, q3, q4, q5, q6, q7, q8, q9, q10, q11, w⟩ | ⟨q0, q1, q2, q3, q4, q5, q6, q7, q8, q9, q10, q11, q12, w⟩ | ⟨q0, q1, q2, q3, q4, q5, q6, q7, q8, q9, q10, q11, q12, w⟩ | ⟨q0, q1, q2, q3, q4, q5, q6, q7, q8, q9, q10, q11, w⟩ | ⟨q0, q1, q2, q3, q4, q5, q6, q7, q8, q9, q10, q11, q12, w⟩ | ⟨q0, q1, q2, q3, q4, q5, q6, q7, q8, q9, q10, q11, q12, w⟩ | ⟨q0, q1, q2, q3, q4, q5, q6, q7, q8, q9, q10, w⟩ | ⟨q0, q1, q2, q3, q4, q5, q6, q7, q8, q9, q10, q11, w⟩ | ⟨q0, q1, q2, q3, q4, q5, q6, q7, q8, q9, q10, q11, w⟩
      all_goals (refine ⟨_, w, ?_⟩; omega)
    · rw [if_neg (show ¬ op.toInt = 4 by omega), if_pos ho]
      by_cases hn : 0 < n
      · rw [if_pos hn]
        rcases y_ans_deque S hc hi HD hk e with ⟨q0, q1, q2, q3, q4, q5, w⟩ | ⟨q0, q1, q2, q3, q4, q5, q6, w⟩ | ⟨q0, q1, q2, q3, q4, q5, q6, q7, w⟩ | ⟨q0, q1, q2, q3, q4, q5, q6, q7, w⟩ | ⟨q0, q1, q2, q3, q4, q5, q6, w⟩ | ⟨q0, q1, q2, q3, q4, q5, q6, q7, w⟩ | ⟨q0, q1, q2, q3, q4, q5, q6, q7, q8, w⟩ | ⟨q0, q1, q2, q3, q4, q5, q6, q7, q8, w⟩ | ⟨q0, q1, q2, q3, q4, q5, q6, q7, q8, q9, w⟩ | ⟨q0, q1, q2, q3, q4, q5, q6, q7, q8, q9, q10, w⟩ | ⟨q0, q1, q2, q3, q4, q5, q6, q7, q8, q9, q10, w⟩ | ⟨q0, q1, q2, q3, q4, q5, q6, q7, w⟩ | ⟨q0, q1, q2, q3, q4, q5, q6, q7, q8, q9, q10, w⟩ | ⟨q0, q1, q2, q3, q4, q5, q6, q7, q8, q9, q10, q11, w⟩ | ⟨q0, q1, q2, q3, q4, q5, q6, q7, q8, q9, q10, q11, w⟩ | ⟨q0, q1, q2, q3, q4, q5, q6, q7, q8, w⟩ | ⟨q0, q1, q2, q3, q4, q5, q6, q7, q8, q9, w⟩ | ⟨q0, q1, q2, q3, q4, q5, q6, q7, q8, q9, q10, w⟩ | ⟨q0, q1, q2, q3, q4, q5, q6, q7, q8, q9, q10, w⟩ | ⟨q0, q1, q2, q3, q4, q5, q6, q7, q8, q9, q10, q11, w⟩ | ⟨q0, q1, q2, q3, q4, q5, q6, q7, q8, q9, q10, q11, q12, w⟩ | ⟨q0, q1, q2, q3, q4, q5, q6, q7, q8, q9, q10, q11, q12, w⟩ | ⟨q0, q1, q2, q3, q4, q5, q6, q7, q8, q9, q10, q11, w⟩ | ⟨q0, q1, q2, q3, q4, q5, q6, q7, q8, q9, q10, q11, q12, w⟩ | ⟨q0, q1, q2, q3, q4, q5, q6, q7, q8, q9, q10, q11, q12, w⟩ | ⟨q0, q1, q2, q3, q4, q5, q6, q7, q8, q9, w⟩ | ⟨q0, q1, q2, q3, q4, q5, w⟩ | ⟨q0, q1, q2, q3, q4, q5, q6, w⟩ | ⟨q0, q1, q2, q3, q4, q5, q6, w⟩ | ⟨q0, q1, q2, q3, q4, q5, q6, w⟩ | ⟨q0, q1, q2, q3, q4, q5, q6, q7, w⟩ | ⟨q0, q1, q2, q3, q4, q5, q6, q7, w⟩ | ⟨q0, q1, q2, q3, q4, q5, q6, q7, q8, q9, w⟩ | ⟨q0, q1, q2, q3, q4, q5, q6, q7, q8, q9, q10, w⟩ | ⟨q0, q1, q2, q3, q4, q5, q6, q7, q8, q9, q10, w⟩ | ⟨q0, q1, q2, q3, q4, q5, q6, q7, q8, w⟩ | ⟨q0, q1, q2, q3, q4, q5, q6, q7, q8, q9, w⟩ | ⟨q0, q1, q2, q3, q4, q5, q6, q7, q8, q9, w⟩ | ⟨q0, q1, q2, q3, q4, q5, q6, q7, q8, q9, q10, w⟩ | ⟨q0, q1, q2, q3, q4, q5, q6, q7, q8, q9, q10, q11, w⟩ | ⟨q0, q1, q2, q3, q4, q5, q6, q7, q8, q9, q10, q11, w⟩ | ⟨q0, q1, q2, q3, q4, q5, q6, q7, q8, q9, w⟩ | ⟨q0, q1, q2, q3, q4, q5, q6, q7, q8, q9, q10, w⟩ | ⟨q0, q1, q2, q3, q4, q5, q6, q7, q8, q9, q10, w⟩ | ⟨q0, q1, q2, q3, q4, q5, q6, q7, q8, q9, w⟩ | ⟨q0, q1, q2, q3, q4, q5, q6, q7, q8, q9, q10, w⟩ | ⟨q0, q1, q2, q3, q4, q5, q6, q7, q8, q9, q10, w⟩ | ⟨q0, q1, q2, q3, q4, q5, q6, q7, q8, q9, q10, q11, w⟩ | ⟨q0, q1, q2, q3, q4, q5, q6, q7, q8, q9, q10, q11, q12, w⟩ | ⟨q0, q1, q2, q3, q4, q5, q6, q7, q8, q9, q10, q11, q12, w⟩ | ⟨q0, q1, q2, q3, q4, q5, q6, q7, q8, q9, q10, q11, w⟩ | ⟨q0, q1, q2, q3, q4, q5, q6, q7, q8, q9, q10, q11, q12, w⟩ | ⟨q0, q1, q2, q3, q4, q5, q6, q7, q8, q9, q10, q11, q12, w⟩ | ⟨q0, q1, q2, q3, q4, q5, q6, q7, q8, q9, q10, w⟩ | ⟨q0, q1, q2, q3, q4, q5, q6, q7, q8, q9, q10, q11, w⟩ | ⟨q0, q1, q2, q3, q4, q5, q6, q7, q8, q9, q10, q11, w⟩
        all_goals (refine ⟨_, w, ?_⟩; omega)
      · rw [if_neg hn]
        rcases y_ans_deque S hc hi HD hk e with ⟨q0, q1, q2, q3, q4, q5, w⟩ | ⟨q0, q1, q2, q3, q4, q5, q6, w⟩ | ⟨q0, q1, q2, q3, q4, q5, q6, q7, w⟩ | ⟨q0, q1, q2, q3, q4, q5, q6, q7, w⟩ | ⟨q0, q1, q2, q3, q4, q5, q6, w⟩ | ⟨q0, q1, q2, q3, q4, q5, q6, q7, w⟩ | ⟨q0, q1, q2, q3, q4, q5, q6, q7, q8, w⟩ | ⟨q0, q1, q2, q3, q4, q5, q6, q7, q8, w⟩ | ⟨q0, q1, q2, q3, q4, q5, q6, q7, q8, q9, w⟩ | ⟨q0, q1, q2, q3, q4, q5, q6, q7, q8, q9, q10, w⟩ | ⟨q0, q1, q2, q3, q4, q5, q6, q7, q8, q9, q10, w⟩ | ⟨q0, q1, q2, q3, q4, q5, q6, q7, w⟩ | ⟨q0, q1, q2, q3, q4, q5, q6, q7, q8, q9, q10, w⟩ | ⟨q0, q1, q2, q3, q4, q5, q6, q7, q8, q9, q10, q11, w⟩ | ⟨q0, q1, q2, q3, q4, q5, q6, q7, q8, q9, q10, q11, w⟩ | ⟨q0, q1, q2, q3, q4, q5, q6, q7, q8, w⟩ | ⟨q0, q1, q2, q3, q4, q5, q6, q7, q8, q9, w⟩ | ⟨q0, q1, q2, q3, q4, q5, q6, q7, q8, q9, q10, w⟩ | ⟨q0, q1, q2, q3, q4, q5, q6, q7, q8, q9, q10, w⟩ | ⟨q0, q1, q2, q3, q4, q5, q6, q7, q8, q9, q10, q11, w⟩ | ⟨q0, q1, q2, q3, q4, q5, q6, q7, q8, q9, q10, q11, q12, w⟩ | ⟨q0, q1, q2, q3, q4, q5, q6, q7, q8, q9, q10, q11, q12, w⟩ | ⟨q0, q1, q2, q3, q4, q5, q6, q7, q8, q9, q10, q11, w⟩ | ⟨q0, q1, q2, q3, q4, q5, q6, q7, q8, q9, q10, q11, q12, w⟩ | ⟨q0, q1, q2, q3, q4, q5, q6, q7, q8, q9, q10, q11, q12, w⟩ | ⟨q0, q1, q2, q3, q4, q5, q6, q7, q8, q9, w⟩ | ⟨q0, q1, q2, q3, q4, q5, w⟩ | ⟨q0, q1, q2, q3, q4, q5, q6, w⟩ | ⟨q0, q1, q2, q3, q4, q5, q6, w⟩ | ⟨q0, q1, q2, q3, q4, q5, q6, w⟩ | ⟨q0, q1, q2, q3, q4, q5, q6, q7, w⟩ | ⟨q0, q1, q2, q3, q4, q5, q6, q7, w⟩ | ⟨q0, q1, q2, q3, q4, q5, q6, q7, q8, q9, w⟩ | ⟨q0, q1, q2, q3, q4, q5, q6, q7, q8, q9, q10, w⟩ | ⟨q0, q1, q2, q3, q4, q5, q6, q7, q8, q9, q10, w⟩ | ⟨q0, q1, q2, q3, q4, q5, q6, q7, q8, w⟩ | ⟨q0, q1, q2, q3, q4, q5, q6, q7, q8, q9, w⟩ | ⟨q0, q1, q2, q3, q4, q5, q6, q7, q8, q9, w⟩ | ⟨q0, q1, q2, q3, q4, q5, q6, q7, q8, q9, q10, w⟩ | ⟨q0, q1, q2, q3, q4, q5, q6, q7, q8, q9, q10, q11, w⟩ | ⟨q0, q1, q2, q3, q4, q5, q6, q7, q8, q9, q10, q11, w⟩ | ⟨q0, q1, q2, q3, q4, q5, q6, q7, q8, q9, w⟩ | ⟨q0, q1, q2, q3, q4, q5, q6, q7, q8, q9, q10, w⟩ | ⟨q0, q1, q2, q3, q4, q5, q6, q7, q8, q9, q10, w⟩ | ⟨q0, q1, q2, q3, q4, q5, q6, q7, q8, q9, w⟩ | ⟨q0, q1, q2, q3, q4, q5, q6, q7, q8, q9, q10, w⟩ | ⟨q0, q1, q2, q3, q4, q5, q6, q7, q8, q9, q10, w⟩ | ⟨q0, q1, q2, q3, q4, q5, q6, q7, q8, q9, q10, q11, w⟩ | ⟨q0, q1, q2, q3, q4, q5, q6, q7, q8, q9, q10, q11, q12, w⟩ | ⟨q0, q1, q2, q3, q4, q5, q6, q7, q8, q9, q10, q11, q12, w⟩ | ⟨q0, q1, q2, q3, q4, q5, q6, q7, q8, q9, q10, q11, w⟩ | ⟨q0, q1, q2, q3, q4, q5, q6, q7, q8, q9, q10, q11, q12, w⟩ | ⟨q0, q1, q2, q3, q4, q5, q6, q7, q8, q9, q10, q11, q12, w⟩ | ⟨q0, q1, q2, q3, q4, q5, q6, q7, q8, q9, q10, w⟩ | ⟨q0, q1, q2, q3, q4, q5, q6, q7, q8, q9, q10, q11, w⟩ | ⟨q0, q1, q2, q3, q4, q5, q6, q7, q8, q9, q10, q11, w⟩
        all_goals (refine ⟨_, w, ?_⟩; omega)
    · rw [if_neg (show ¬ op.toInt = 4 by omega), if_neg (show ¬ op.toInt < 2 by omega), if_pos ho, e0]
      dsimp only [Option.getD]
      rcases y_ans_deque S hc hi HD hk e with ⟨q0, q1, q2, q3, q4, q5, w⟩ | ⟨q0, q1, q2, q3, q4, q5, q6, w⟩ | ⟨q0, q1, q2, q3, q4, q5, q6, q7, w⟩ | ⟨q0, q1, q2, q3, q4, q5, q6, q7, w⟩ | ⟨q0, q1, q2, q3, q4, q5, q6, w⟩ | ⟨q0, q1, q2, q3, q4, q5, q6, q7, w⟩ | ⟨q0, q1, q2, q3, q4, q5, q6, q7, q8, w⟩ | ⟨q0, q1, q2, q3, q4, q5, q6, q7, q8, w⟩ | ⟨q0, q1, q2, q3, q4, q5, q6, q7, q8, q9, w⟩ | ⟨q0, q1, q2, q3, q4, q5, q6, q7, q8, q9, q10, w⟩ | ⟨q0, q1, q2, q3, q4, q5, q6, q7, q8, q9, q10, w⟩ | ⟨q0, q1, q2, q3, q4, q5, q6, q7, w⟩ | ⟨q0, q1, q2, q3, q4, q5, q6, q7, q8, q9, q10, w⟩ | ⟨q0, q1, q2, q3, q4, q5, q6, q7, q8, q9, q10, q11, w⟩ | ⟨q0, q1, q2, q3, q4, q5, q6, q7, q8, q9, q10, q11, w⟩ | ⟨q0, q1, q2, q3, q4, q5, q6, q7, q8, w⟩ | ⟨q0, q1, q2, q3, q4, q5, q6, q7, q8, q9, w⟩ | ⟨q0, q1, q2, q3, q4, q5, q6, q7, q8, q9, q10, w⟩ | ⟨q0, q1, q2, q3, q4, q5, q6, q7, q8, q9, q10, w⟩ | ⟨q0, q1, q2, q3, q4, q5, q6, q7, q8, q9, q10, q11, w⟩ | ⟨q0, q1, q2, q3, q4, q5, q6, q7, q8, q9, q10, q11, q12, w⟩ | ⟨q0, q1, q2, q3, q4, q5, q6, q7, q8, q9, q10, q11, q12, w⟩ | ⟨q0, q1, q2, q3, q4, q5, q6, q7, q8, q9, q10, q11, w⟩ | ⟨q0, q1, q2, q3, q4, q5, q6, q7, q8, q9, q10, q11, q12, w⟩ | ⟨q0, q1, q2, q3, q4, q5, q6, q7, q8, q9, q10, q11, q12, w⟩ | ⟨q0, q1, q2, q3, q4, q5, q6, q7, q8, q9, w⟩ | ⟨q0, q1, q2, q3, q4, q5, w⟩ | ⟨q0, q1, q2, q3, q4, q5, q6, w⟩ | ⟨q0, q1, q2, q3, q4, q5, q6, w⟩ | ⟨q0, q1, q2, q3, q4, q5, q6, w⟩ | ⟨q0, q1, q2, q3, q4, q5, q6, q7, w⟩ | ⟨q0, q1, q2, q3, q4, q5, q6, q7, w⟩ | ⟨q0, q1, q2, q3, q4, q5, q6, q7, q8, q9, w⟩ | ⟨q0, q1, q2, q3, q4, q5, q6, q7, q8, q9, q10, w⟩ | ⟨q0, q1, q2, q3, q4, q5, q6, q7, q8, q9, q10, w⟩ | ⟨q0, q1, q2, q3, q4, q5, q6, q7, q8, w⟩ | ⟨q0, q1, q2, q3, q4, q5, q6, q7, q8, q9, w⟩ | ⟨q0, q1, q2, q3, q4, q5, q6, q7, q8, q9, w⟩ | ⟨q0, q1, q2, q3, q4, q5, q6, q7, q8, q9, q10, w⟩ | ⟨q0, q1, q2, q3, q4, q5, q6, q7, q8, q9, q10, q11, w⟩ | ⟨q0, q1, q2, q3, q4, q5, q6, q7, q8, q9, q10, q11, w⟩ | ⟨q0, q1, q2, q3, q4, q5, q6, q7, q8, q9, w⟩ | ⟨q0, q1, q2, q3, q4, q5, q6, q7, q8, q9, q10, w⟩ | ⟨q0, q1, q2, q3, q4, q5, q6, q7, q8, q9, q10, w⟩ | ⟨q0, q1, q2, q3, q4, q5, q6, q7, q8, q9, w⟩ | ⟨q0, q1, q2, q3, q4, q5, q6, q7, q8, q9, q10, w⟩ | ⟨q0, q1, q2, q3, q4, q5, q6, q7, q8, q9, q10, w⟩ | ⟨q0, q1, q2, q3, q4, q5, q6, q7, q8, q9, q10, q11, w⟩ | ⟨q0, q1, q2, q3, q4, q5, q6, q7, q8, q9, q10, q11, q12, w⟩ | ⟨q0, q1, q2, q3, q4, q5, q6, q7, q8, q9, q10, q11, q12, w⟩ | ⟨q0, q1, q2, q3, q4, q5, q6, q7, q8, q9, q10, q11, w⟩ | ⟨q0, q1, q2, q3, q4, q5, q6, q7, q8, q9, q10, q11, q12, w⟩ | ⟨q0, q1, q2, q3, q4, q5, q6, q7, q8, q9, q10, q11, q12, w⟩ | ⟨q0, q1, q2, q3, q4, q5, q6, q7, q8, q9, q10, w⟩ | ⟨q0, q1, q2, q3, q4, q5, q6, q7, q8, q9, q10, q11, w⟩ | ⟨q0, q1, q2, q3, q4, q5, q6, q7, q8, q9, q10, q11, w⟩
      all_goals (refine ⟨_, w, ?_⟩; omega)
    · rw [if_neg (show ¬ op.toInt = 4 by omega), if_neg (show ¬ op.toInt < 2 by omega), if_neg (show ¬ op.toInt = 2 by omega), e9]
      dsimp only [Option.getD]
      rcases y_ans_deque S hc hi HD hk e with ⟨q0, q1, q2, q3, q4, q5, w⟩ | ⟨q0, q1, q2, q3, q4, q5, q6, w⟩ | ⟨q0, q1, q2, q3, q4, q5, q6, q7, w⟩ | ⟨q0, q1, q2, q3, q4, q5, q6, q7, w⟩ | ⟨q0, q1, q2, q3, q4, q5, q6, w⟩ | ⟨q0, q1, q2, q3, q4, q5, q6, q7, w⟩ | ⟨q0, q1, q2, q3, q4, q5, q6, q7, q8, w⟩ | ⟨q0, q1, q2, q3, q4, q5, q6, q7, q8, w⟩ | ⟨q0, q1, q2, q3, q4, q5, q6, q7, q8, q9, w⟩ | ⟨q0, q1, q2, q3, q4, q5, q6, q7, q8, q9, q10, w⟩ | ⟨q0, q1, q2, q3, q4, q5, q6, q7, q8, q9, q10, w⟩ | ⟨q0, q1, q2, q3, q4, q5, q6, q7, w⟩ | ⟨q0, q1, q2, q3, q4, q5, q6, q7, q8, q9, q10, w⟩ | ⟨q0, q1, q2, q3, q4, q5, q6, q7, q8, q9, q10, q11, w⟩ | ⟨q0, q1, q2, q3, q4, q5, q6, q7, q8, q9, q10, q11, w⟩ | ⟨q0, q1, q2, q3, q4, q5, q6, q7, q8, w⟩ | ⟨q0, q1, q2, q3, q4, q5, q6, q7, q8, q9, w⟩ | ⟨q0, q1, q2, q3, q4, q5, q6, q7, q8, q9, q10, w⟩ | ⟨q0, q1, q2, q3, q4, q5, q6, q7, q8, q9, q10, w⟩ | ⟨q0, q1, q2, q3, q4, q5, q6, q7, q8, q9, q10, q11, w⟩ | ⟨q0, q1, q2, q3, q4, q5, q6, q7, q8, q9, q10, q11, q12, w⟩ | ⟨q0, q1, q2, q3, q4, q5, q6, q7, q8, q9, q10, q11, q12, w⟩ | ⟨q0, q1, q2, q3, q4, q5, q6, q7, q8, q9, q10, q11, w⟩ | ⟨q0, q1, q2, q3, q4, q5, q6, q7, q8, q9, q10, q11, q12, w⟩ | ⟨q0, q1, q2, q3, q4, q5, q6, q7, q8, q9, q10, q11, q12, w⟩ | ⟨q0, q1, q2, q3, q4, q5, q6, q7, q8, q9, w⟩ | ⟨q0, q1, q2, q3, q4, q5, w⟩ | ⟨q0, q1, q2, q3, q4, q5, q6, w⟩ | ⟨q0, q1, q2, q3, q4, q5, q6, w⟩ | ⟨q0, q1, q2, q3, q4, q5, q6, w⟩ | ⟨q0, q1, q2, q3, q4, q5, q6, q7, w⟩ | ⟨q0, q1, q2, q3, q4, q5, q6, q7, w⟩ | ⟨q0, q1, q2, q3, q4, q5, q6, q7, q8, q9, w⟩ | ⟨q0, q1, q2, q3, q4, q5, q6, q7, q8, q9, q10, w⟩ | ⟨q0, q1, q2, q3, q4, q5, q6, q7, q8, q9, q10, w⟩ | ⟨q0, q1, q2, q3, q4, q5, q6, q7, q8, w⟩ | ⟨q0, q1, q2, q3, q4, q5, q6, q7, q8, q9, w⟩ | ⟨q0, q1, q2, q3, q4, q5, q6, q7, q8, q9, w⟩ | ⟨q0, q1, q2, q3, q4, q5, q6, q7, q8, q9, q10, w⟩ | ⟨q0, q1, q2, q3, q4, q5, q6, q7, q8, q9, q10, q11, w⟩ | ⟨q0, q1, q2, q3, q4, q5, q6, q7, q8, q9, q10, q11, w⟩ | ⟨q0, q1, q2, q3, q4, q5, q6, q7, q8, q9, w⟩ | ⟨q0, q1, q2, q3, q4, q5, q6, q7, q8, q9, q10, w⟩ | ⟨q0, q1, q2, q3, q4, q5, q6, q7, q8, q9, q10, w⟩ | ⟨q0, q1, q2, q3, q4, q5, q6, q7, q8, q9, w⟩ | ⟨q0, q1, q2, q3, q4, q5, q6, q7, q8, q9, q10, w⟩ | ⟨q0, q1, q2, q3, q4, q5, q6, q7, q8, q9, q10, w⟩ | ⟨q0, q1, q2, q3, q4, q5, q6, q7, q8, q9, q10, q11, w⟩ | ⟨q0, q1, q2, q3, q4, q5, q6, q7, q8, q9, q10, q11, q12, w⟩ | ⟨q0, q1, q2, q3, q4, q5, q6, q7, q8, q9, q10, q11, q12, w⟩ | ⟨q0, q1, q2, q3, q4, q5, q6, q7, q8, q9, q10, q11, w⟩ | ⟨q0, q1, q2, q3, q4, q5, q6, q7, q8, q9, q10, q11, q12, w⟩ | ⟨q0, q1, q2, q3, q4, q5, q6, q7, q8, q9, q10, q11, q12, w⟩ | ⟨q0, q1, q2, q3, q4, q5, q6, q7, q8, q9, q10, w⟩ | ⟨q0, q1, q2, q3, q4, q5, q6, q7, q8, q9, q10, q11, w⟩ | ⟨q0, q1, q2, q3, q4, q5, q6, q7, q8, q9, q10, q11, w⟩
      all_goals (refine ⟨_, w, ?_⟩; omega)

theorem k_ans_counter {d c i m : Nat} {h : Hp} {op a b mo how ans : Int32} {g : Nat → Int32} {r : Option Value × Hp × Nat} (S : SH h.2) (hc : c < 5) (hi : i < 8) (HD : ADT h c i op a b mo how ans) (hk : (h.1 212 6).toInt = 3) (hm : op.toInt ≠ 1 → mo = Int32.ofNat m ∧ m < 4) (C : CAs h g) (e : Ev d 114 (0, [some (.ref 212), some (.ref (152 + 12 * c + i))], [], h, fl_tot) r) : ∃ x : Int32, r = (some (.int x), h, fl_tot) ∧ (x.toInt ≠ 0 ↔ okC op.toInt m a how ans g) := by
  have i0 : (Int32.ofInt 0).toInt = 0 := by decide
  have i1 : (Int32.ofInt 1).toInt = 1 := by decide
  unfold okC
  rw [← C 0 (by decide), ← C 1 (by decide), ← C 2 (by decide), ← C 3 (by decide)]
  by_cases ho : op.toInt = 1
  · rw [if_pos ho]
    rcases y_ans_counter S hc hi HD hk e with ⟨q0, q1, q2, q3, q4, q5, w⟩ | ⟨q0, q1, q2, q3, q4, q5, q6, w⟩ | ⟨q0, q1, q2, q3, q4, q5, q6, w⟩ | ⟨q0, q1, q2, q3, q4, q5, w⟩ | ⟨q0, q1, q2, q3, q4, q5, q6, w⟩ | ⟨q0, q1, q2, q3, q4, q5, q6, w⟩
    all_goals (refine ⟨_, w, ?_⟩; omega)
  · rw [if_neg ho]
    obtain ⟨rfl, m4⟩ := hm ho
    have V : h.1 214 ((Int32.ofNat m) &&& (Int32.ofInt 31)).toNatClampNeg = g m := by rw [an31 (by omega)]; exact C m m4
    rw [← V]
    rcases y_ans_counter S hc hi HD hk e with ⟨q0, q1, q2, q3, q4, q5, w⟩ | ⟨q0, q1, q2, q3, q4, q5, q6, w⟩ | ⟨q0, q1, q2, q3, q4, q5, q6, w⟩ | ⟨q0, q1, q2, q3, q4, q5, w⟩ | ⟨q0, q1, q2, q3, q4, q5, q6, w⟩ | ⟨q0, q1, q2, q3, q4, q5, q6, w⟩
    all_goals (refine ⟨_, w, ?_⟩; omega)

theorem k_do_map {d c i kk : Nat} {h : Hp} {op b mo how ans : Int32} {f : KV} {r : Option Value × Hp × Nat} (S : SH h.2) (hc : c < 5) (hi : i < 8) (HD : ADT h c i op (Int32.ofNat kk) b mo how ans) (hk : (h.1 212 6).toInt = 0) (k32 : kk < 32) (C : CAk h f) (e : Ev d 121 (0, [some (.ref 212), some (.ref (152 + 12 * c + i))], [], h, fl_tot) r) : ∃ h', r = (none, h', fl_tot) ∧ CAk h' (nxMap op.toInt kk b ans f) ∧ FP h h' := by
  rcases y_do_map S hc hi HD hk e with ⟨q0, q1, q2, q3, q4, w⟩ | ⟨q0, q1, q2, q3, q4, w⟩ | ⟨q0, q1, q2, w⟩ | ⟨q0, q1, w⟩
  · refine ⟨_, w, ?_, (FP.refl _)⟩
    first
    | (unfold nxMap; (repeat (first | rw [if_pos (by omega)] | rw [if_neg (by omega)])); exact C)
    | (unfold nxMap nxKey; (repeat (first | rw [if_pos (by omega)] | rw [if_neg (by omega)])); exact C)
  · refine ⟨_, w, ?_, (FP.set (FP.set (FP.refl _) (by decide)) (by decide))⟩
    first
    | (unfold nxMap; (repeat (first | rw [if_pos (by omega)] | rw [if_neg (by omega)])); exact C.put k32)
    | (unfold nxMap nxKey; (repeat (first | rw [if_pos (by omega)] | rw [if_neg (by omega)])); exact C.put k32)
  · refine ⟨_, w, ?_, (FP.set (FP.refl _) (by decide))⟩
    first
    | (unfold nxMap; (repeat (first | rw [if_pos (by omega)] | rw [if_neg (by omega)])); exact C.out k32)
    | (unfold nxMap nxKey; (repeat (first | rw [if_pos (by omega)] | rw [if_neg (by omega)])); exact C.out k32)
  · refine ⟨_, w, ?_, (FP.set (FP.set (FP.refl _) (by decide)) (by decide))⟩
    first
    | (unfold nxMap; (repeat (first | rw [if_pos (by omega)] | rw [if_neg (by omega)])); exact C.put k32)
    | (unfold nxMap nxKey; (repeat (first | rw [if_pos (by omega)] | rw [if_neg (by omega)])); exact C.put k32)

theorem k_do_copies {d c i kk : Nat} {h : Hp} {op a b mo how ans : Int32} {f : KV} {r : Option Value × Hp × Nat} (S : SH h.2) (hc : c < 5) (hi : i < 8) (HD : ADT h c i op a b mo how ans) (hk : (h.1 212 6).toInt = 4) (ka : op.toInt ≠ 3 → a = Int32.ofNat kk ∧ kk < 32) (C : CAk h f) (e : Ev d 121 (0, [some (.ref 212), some (.ref (152 + 12 * c + i))], [], h, fl_tot) r) : ∃ h', r = (none, h', fl_tot) ∧ CAk h' (nxCop op.toInt kk b f) ∧ FP h h' := by
  unfold nxCop
  rcases y_do_copies S hc hi HD hk e with ⟨q0, q1, q2, q3, q4, q5, q6, q7, w⟩ | ⟨q0, q1, q2, q3, q4, q5, q6, w⟩ | ⟨q0, q1, q2, q3, q4, q5, w⟩
  · refine ⟨_, w, ?_, FP.refl _⟩
    by_cases ho : op.toInt = 3
    · rw [if_pos ho]; exact C
    · rw [if_neg ho]
      unfold nxKey
      rw [if_neg (by omega), if_neg (by omega)]
      exact C
  · obtain ⟨rfl, k32⟩ := ka (by omega)
    refine ⟨_, w, ?_, (FP.set (FP.refl _) (by decide))⟩
    rw [if_neg (by omega)]
    unfold nxKey
    rw [if_neg (by omega), if_pos (by omega)]
    exact C.out k32
  · obtain ⟨rfl, k32⟩ := ka (by omega)
    refine ⟨_, w, ?_, (FP.set (FP.set (FP.refl _) (by decide)) (by decide))⟩
    rw [if_neg (by omega)]
    unfold nxKey
    rw [if_pos (by omega)]
    exact C.put k32

theorem k_do_once {d c i kk : Nat} {h : Hp} {op b mo how ans : Int32} {f : KV} {r : Option Value × Hp × Nat} (S : SH h.2) (hc : c < 5) (hi : i < 8) (HD : ADT h c i op (Int32.ofNat kk) b mo how ans) (hk : (h.1 212 6).toInt = 5) (k32 : kk < 32) (C : CAk h f) (e : Ev d 121 (0, [some (.ref 212), some (.ref (152 + 12 * c + i))], [], h, fl_tot) r) : ∃ h', r = (none, h', fl_tot) ∧ CAk h' (nxOnc kk how ans f) ∧ FP h h' := by
  rcases y_do_once S hc hi HD hk e with ⟨q0, q1, q2, q3, q4, q5, w⟩ | ⟨q0, q1, q2, q3, q4, q5, w⟩
  · refine ⟨_, w, ?_, (FP.refl _)⟩
    first
    | (unfold nxOnc; (repeat (first | rw [if_pos (by omega)] | rw [if_neg (by omega)])); exact C)
    | (unfold nxOnc nxKey; (repeat (first | rw [if_pos (by omega)] | rw [if_neg (by omega)])); exact C)
  · refine ⟨_, w, ?_, (FP.set (FP.set (FP.refl _) (by decide)) (by decide))⟩
    first
    | (unfold nxOnc; (repeat (first | rw [if_pos (by omega)] | rw [if_neg (by omega)])); exact C.put k32)
    | (unfold nxOnc nxKey; (repeat (first | rw [if_pos (by omega)] | rw [if_neg (by omega)])); exact C.put k32)

theorem k_do_queue {d c i p n : Nat} {h : Hp} {op a b mo how ans : Int32} {l : List Int32} {r : Option Value × Hp × Nat} (S : SH h.2) (hc : c < 5) (hi : i < 8) (HD : ADT h c i op a b mo how ans) (hk : (h.1 212 6).toInt = 1) (hp : p ≤ 12) (C : CAq h l n p) (e : Ev d 121 (0, [some (.ref 212), some (.ref (152 + 12 * c + i))], [], h, fl_tot) r) : ∃ h', r = (none, h', fl_tot) ∧ CAq h' (nxQ op.toInt a l) n (p + 1) ∧ FP h h' := by
  have L := C.ln hp
  have c3 := C.2.2.1
  have c2 := C.2.1
  unfold nxQ
  rcases y_do_queue S hc hi HD hk e with ⟨q0, q1, q2, q3, w⟩ | ⟨q0, q1, q2, q3, w⟩ | ⟨q0, q1, q2, w⟩
  · exact ⟨_, w, by rw [if_neg (by omega)]; exact (C.tf hp (by omega)).up (by omega), (FP.set (FP.set (FP.refl _) (by decide)) (by decide))⟩
  · refine ⟨_, w, ?_, (FP.refl _)⟩
    rw [if_neg (by omega)]
    have z : l = [] := List.eq_nil_of_length_eq_zero (by omega)
    subst z
    exact C.up (by omega)
  · exact ⟨_, w, by rw [if_pos (by omega)]; exact C.pl hp, (FP.set (FP.set (FP.refl _) (by decide)) (by decide))⟩

theorem k_do_deque {d c i p n : Nat} {h : Hp} {op a b mo how ans : Int32} {l : List Int32} {r : Option Value × Hp × Nat} (S : SH h.2) (hc : c < 5) (hi : i < 8) (HD : ADT h c i op a b mo how ans) (hk : (h.1 212 6).toInt = 2) (hp : p ≤ 12) (ho4 : 0 ≤ op.toInt ∧ op.toInt ≤ 4) (ok : okD op.toInt a how ans (h.1 212 7).toInt l n) (C : CAq h l n p) (e : Ev d 121 (0, [some (.ref 212), some (.ref (152 + 12 * c + i))], [], h, fl_tot) r) : ∃ h', r = (none, h', fl_tot) ∧ CAq h' (nxDl op.toInt a how l) (nxDn op.toInt how n) (p + 1) ∧ FP h h' := by
  have L := C.ln hp
  have c3 := C.2.2.1
  have c2 := C.2.1
  have hl : how.toInt = 0 → op.toInt = 2 ∨ op.toInt = 3 → l.length ≠ 0 := fun z1 z2 z3 => by
    unfold okD at ok
    rw [if_neg (by omega), if_neg (by omega), if_pos z3] at ok
    omega
  unfold nxDl nxDn
  rcases y_do_deque S hc hi HD hk e with ⟨q0, q1, q2, q3, w⟩ | ⟨q0, q1, q2, q3, q4, w⟩ | ⟨q0, q1, q2, q3, q4, q5, w⟩ | ⟨q0, q1, q2, q3, q4, q5, q6, q7, w⟩ | ⟨q0, q1, q2, q3, q4, q5, q6, q7, w⟩ | ⟨q0, q1, q2, q3, q4, q5, q6, q7, q8, w⟩ | ⟨q0, q1, q2, q3, q4, q5, q6, q7, q8, w⟩ | ⟨q0, q1, q2, q3, q4, q5, q6, q7, q8, w⟩ | ⟨q0, q1, q2, q3, q4, q5, q6, q7, q8, q9, w⟩ | ⟨q0, q1, q2, q3, q4, q5, q6, q7, q8, q9, w⟩
  · refine ⟨_, w, ?_, (FP.refl _)⟩
    rw [if_neg (by omega), if_neg (by omega)]
    exact C.up (by omega)
  · refine ⟨_, w, ?_, (FP.set (FP.set (FP.refl _) (by decide)) (by decide))⟩
    rw [if_pos (by omega), if_pos (by omega), if_neg (by omega)]
    exact C.pl hp
  · refine ⟨_, w, ?_, (FP.set (FP.set (FP.set (FP.refl _) (by decide)) (by decide)) (by decide))⟩
    rw [if_pos (by omega), if_neg (by omega), if_pos (by omega), if_neg (by omega)]
    exact C.pf hp
  · refine ⟨_, w, ?_, (FP.set (FP.set (FP.refl _) (by decide)) (by decide))⟩
    rw [if_pos (by omega), if_neg (by omega), if_neg (by omega), if_pos (by omega), if_neg (by omega)]
    exact (C.tf hp (by omega)).up (by omega)
  · exact absurd (show l.length = 0 by omega) (hl (by omega) (by omega))
  · exact absurd (show l.length = 0 by omega) (hl (by omega) (by omega))
  · refine ⟨_, w, ?_, (FP.set (FP.refl _) (by decide))⟩
    rw [if_pos (by omega), if_neg (by omega), if_neg (by omega), if_neg (by omega), if_neg (by omega), if_neg (by omega)]
    exact (C.tl hp (by omega)).up (by omega)
  · refine ⟨_, w, ?_, (FP.set (FP.refl _) (by decide))⟩
    rw [if_pos (by omega), if_neg (by omega), if_neg (by omega), if_neg (by omega), if_pos (by omega), if_pos (by omega)]
    exact C.cl hp
  · exfalso; omega
  · exfalso; omega

theorem gset_at {g : Nat → Int32} {k : Nat} {v : Int32} : gset g k v k = v := if_pos rfl
theorem gset_no {g : Nat → Int32} {k j : Nat} {v : Int32} (h : j ≠ k) : gset g k v j = g j := if_neg h
theorem CAs.put {h : Hp} {g : Nat → Int32} {m : Nat} {v x : Int32} (m4 : m < 4) (C : CAs h g) : CAs (fl_setI (fl_setI h 213 1 x) 214 ((Int32.ofNat m) &&& (Int32.ofInt 31)).toNatClampNeg v) (gset g m v) := fun j hj => by
  rw [an31 (by omega)]
  by_cases z : j = m
  · rw [z, setI_at, gset_at]
  · rw [setI_no (by omega), setI_no (by omega), gset_no z]
    exact C j hj
theorem CAs.b1 {h : Hp} {g : Nat → Int32} {x : Int32} (C : CAs h g) : CAs (fl_setI h 213 1 x) g := fun j hj => by
  rw [setI_no (by omega)]
  exact C j hj

theorem k_do_counter {d c i m : Nat} {h : Hp} {op a b mo how ans : Int32} {g : Nat → Int32} {r : Option Value × Hp × Nat} (S : SH h.2) (hc : c < 5) (hi : i < 8) (HD : ADT h c i op a b mo how ans) (hk : (h.1 212 6).toInt = 3) (hm : op.toInt ≠ 1 → mo = Int32.ofNat m ∧ m < 4) (C : CAs h g) (e : Ev d 121 (0, [some (.ref 212), some (.ref (152 + 12 * c + i))], [], h, fl_tot) r) : ∃ h', r = (none, h', fl_tot) ∧ CAs h' (nxC op.toInt m ans g) ∧ FP h h' := by
  unfold nxC
  rcases y_do_counter S hc hi HD hk e with ⟨q0, q1, q2, q3, q4, w⟩ | ⟨q0, q1, q2, q3, q4, w⟩
  · exact ⟨_, w, by rw [if_pos (by omega)]; exact C, (FP.refl _)⟩
  · obtain ⟨rfl, m4⟩ := hm (by omega)
    refine ⟨_, w, ?_, (FP.set (FP.set (FP.refl _) (by decide)) (by decide))⟩
    rw [if_neg (by omega)]
    exact C.put m4

theorem nxKey_no {op : Int} {k j : Nat} {b : Int32} {f : KV} (z : j ≠ k) : nxKey op k b f j = f j := by
  unfold nxKey
  split
  · exact fset_no z
  · split
    · exact fset_no z
    · rfl
theorem nxMap_no {op : Int} {k j : Nat} {b ans : Int32} {f : KV} (z : j ≠ k) : nxMap op k b ans f j = f j := by
  unfold nxMap
  split
  · exact fset_no z
  · exact nxKey_no z
theorem nxCop_no {op : Int} {k j : Nat} {b : Int32} {f : KV} (z : j ≠ k) : nxCop op k b f j = f j := by
  unfold nxCop
  split
  · rfl
  · exact nxKey_no z
def HBf (x : Int32) (f : KV) : Prop := ∀ j : Nat, j < 32 → (hb x j = true ↔ (f j).isSome = true)
theorem CAk.hbf {h : Hp} {f : KV} (C : CAk h f) : HBf (h.1 213 1) f := fun j hj => (C j hj).1

theorem k_undo_map {d c i kk : Nat} {h : Hp} {op b mo how ans : Int32} {f : KV} {r : Option Value × Hp × Nat} (S : SH h.2) (hc : c < 5) (hi : i < 8) (HD : ADT h c i op (Int32.ofNat kk) b mo how ans) (hk : (h.1 212 6).toInt = 0) (k32 : kk < 32) {xb : Int32} (ok : okMap op.toInt kk b how ans f) (HB : HBf xb f) (C : CAk h (nxMap op.toInt kk b ans f)) (e : Ev d 123 (0, [some (.ref 212), some (.ref (152 + 12 * c + i)),  some (.int xb)], [], h, fl_tot) r) : ∃ h', r = (none, h', fl_tot) ∧ CAk h' f ∧ FP h h' := by
  rcases y_undo_map S hc hi HD hk e with ⟨q0, q1, w⟩ | ⟨q0, q1, q2, q3, q4, w⟩ | ⟨q0, q1, q2, q3, q4, w⟩ | ⟨q0, q1, q2, w⟩
  · refine ⟨_, w, CAk.held HB (fun j hj v hv => ?_), (FP.set (FP.set (FP.set (FP.refl _) (by decide)) (by decide)) (by decide))⟩
    rw [an31 k32]
    by_cases z : j = kk
    · subst z
      rw [setI_at]
      unfold okMap at ok
      rw [if_neg (by omega)] at ok
      unfold okKey at ok
      rw [hv] at ok
      exact Int32.toInt_inj.mp ok.2
    · rw [setI_no (by omega), setI_no (by omega)]
      exact (C j hj).2 v (by rw [nxMap_no z]; exact hv)
  · refine ⟨_, w, CAk.held HB (fun j hj v hv => (C j hj).2 v ?_), (FP.set (FP.refl _) (by decide))⟩
    unfold nxMap nxKey
    rw [if_neg (by omega), if_neg (by omega), if_neg (by omega)]
    exact hv
  · refine ⟨_, w, CAk.held HB (fun j hj v hv => ?_), (FP.set (FP.set (FP.set (FP.refl _) (by decide)) (by decide)) (by decide))⟩
    rw [an31 k32]
    by_cases z : j = kk
    · subst z
      rw [setI_at]
      unfold okMap at ok
      rw [if_pos (by omega), hv] at ok
      dsimp only [Option.getD] at ok
      rw [Int32.toInt_inj.mp ok.2, Int32.add_sub_cancel]
    · rw [setI_no (by omega), setI_no (by omega)]
      exact (C j hj).2 v (by rw [nxMap_no z]; exact hv)
  · refine ⟨_, w, CAk.held HB (fun j hj v hv => ?_), (FP.set (FP.set (FP.set (FP.refl _) (by decide)) (by decide)) (by decide))⟩
    rw [an31 k32]
    by_cases z : j = kk
    · subst z
      rw [setI_at]
      unfold okMap at ok
      rw [if_neg (by omega)] at ok
      unfold okKey at ok
      rw [hv] at ok
      exact Int32.toInt_inj.mp ok.2
    · rw [setI_no (by omega), setI_no (by omega)]
      exact (C j hj).2 v (by rw [nxMap_no z]; exact hv)

theorem k_undo_copies {d c i kk : Nat} {h : Hp} {op a b mo how ans : Int32} {f : KV} {r : Option Value × Hp × Nat} (S : SH h.2) (hc : c < 5) (hi : i < 8) (HD : ADT h c i op a b mo how ans) (hk : (h.1 212 6).toInt = 4) (ka : op.toInt ≠ 3 → a = Int32.ofNat kk ∧ kk < 32) {xb : Int32} (ok : okCop op.toInt kk how ans f) (HB : HBf xb f) (C : CAk h (nxCop op.toInt kk b f)) (e : Ev d 123 (0, [some (.ref 212), some (.ref (152 + 12 * c + i)),  some (.int xb)], [], h, fl_tot) r) : ∃ h', r = (none, h', fl_tot) ∧ CAk h' f ∧ FP h h' := by
  rcases y_undo_copies S hc hi HD hk e with ⟨q0, q1, q2, q3, q4, q5, w⟩ | ⟨q0, q1, q2, q3, q4, q5, q6, q7, w⟩ | ⟨q0, q1, q2, q3, q4, q5, q6, w⟩
  · obtain ⟨rfl, k32⟩ := ka (by omega)
    refine ⟨_, w, CAk.held HB (fun j hj v hv => ?_), (FP.set (FP.set (FP.set (FP.refl _) (by decide)) (by decide)) (by decide))⟩
    rw [an31 k32]
    by_cases z : j = kk
    · subst z
      rw [setI_at]
      unfold okCop at ok
      rw [if_neg (by omega)] at ok
      unfold okKey at ok
      rw [hv] at ok
      exact Int32.toInt_inj.mp ok.2
    · rw [setI_no (by omega), setI_no (by omega)]
      exact (C j hj).2 v (by rw [nxCop_no z]; exact hv)
  · refine ⟨_, w, CAk.held HB (fun j hj v hv => (C j hj).2 v ?_), (FP.set (FP.refl _) (by decide))⟩
    unfold nxCop
    by_cases ho : op.toInt = 3
    · rw [if_pos ho]; exact hv
    · rw [if_neg ho]
      unfold nxKey
      rw [if_neg (by omega), if_neg (by omega)]
      exact hv
  · obtain ⟨rfl, k32⟩ := ka (by omega)
    refine ⟨_, w, CAk.held HB (fun j hj v hv => ?_), (FP.set (FP.set (FP.set (FP.refl _) (by decide)) (by decide)) (by decide))⟩
    rw [an31 k32]
    by_cases z : j = kk
    · subst z
      rw [setI_at]
      unfold okCop at ok
      rw [if_neg (by omega)] at ok
      unfold okKey at ok
      rw [hv] at ok
      exact Int32.toInt_inj.mp ok.2
    · rw [setI_no (by omega), setI_no (by omega)]
      exact (C j hj).2 v (by rw [nxCop_no z]; exact hv)

theorem k_undo_once {d c i kk : Nat} {h : Hp} {op b mo how ans : Int32} {f : KV} {r : Option Value × Hp × Nat} (S : SH h.2) (hc : c < 5) (hi : i < 8) (HD : ADT h c i op (Int32.ofNat kk) b mo how ans) (hk : (h.1 212 6).toInt = 5) (k32 : kk < 32) {xb : Int32} (ok : okOnc kk how ans (((Int32.ofInt 1000) * ((Int32.ofNat c) + (Int32.ofInt 1))) + (Int32.ofNat i)) f) (HB : HBf xb f) (C : CAk h (nxOnc kk how ans f)) (e : Ev d 123 (0, [some (.ref 212), some (.ref (152 + 12 * c + i)),  some (.int xb)], [], h, fl_tot) r) : ∃ h', r = (none, h', fl_tot) ∧ CAk h' f ∧ FP h h' := by
  have w := y_undo_once S hc hi HD hk e
  obtain ⟨q0, q1, q2, q3, q4, w⟩ := w
  refine ⟨_, w, CAk.held HB (fun j hj v hv => (C j hj).2 v ?_), ((FP.refl _).set (by decide))⟩
  unfold nxOnc
  split
  · rename_i h0
    by_cases z : j = kk
    · subst z
      unfold okOnc at ok
      rw [hv] at ok
      rw [fset_at, Int32.toInt_inj.mp ok.2.2]
    · rw [fset_no z]; exact hv
  · exact hv

theorem k_undo_queue {d c i p n : Nat} {h : Hp} {op a b mo how ans : Int32} {l : List Int32} {r : Option Value × Hp × Nat} (S : SH h.2) (hc : c < 5) (hi : i < 8) (HD : ADT h c i op a b mo how ans) (hk : (h.1 212 6).toInt = 1) (hp : p ≤ 12) {xb : Int32} (ok : okQ op.toInt a how ans l) (hl12 : l.length ≤ p) (hn : n ≤ p) (C : CAq h (nxQ op.toInt a l) n p) (e : Ev d 123 (0, [some (.ref 212), some (.ref (152 + 12 * c + i)),  some (.int xb)], [], h, fl_tot) r) : ∃ h', r = (none, h', fl_tot) ∧ CAq h' l n (p + 1) ∧ FP h h' := by
  have L := C.ln hp
  unfold okQ at ok
  unfold nxQ at C L
  rcases y_undo_queue S hc hi HD hk e with ⟨q0, q1, q2, q3, w⟩ | ⟨q0, q1, q2, q3, w⟩ | ⟨q0, q1, q2, q3, w⟩ | ⟨q0, q1, q2, q3, w⟩
  · rw [if_neg (by omega)] at ok C
    have z : l = [] := by
      apply List.eq_nil_of_length_eq_zero
      by_cases y : l.length = 0
      · exact y
      · rw [if_neg y] at ok
        omega
    subst z
    exact ⟨_, w, C.b1.up (by omega), (FP.set (FP.refl _) (by decide))⟩
  · rw [if_neg (by omega)] at ok C
    cases l with
    | nil =>
      rw [if_pos List.length_nil] at ok
      omega
    | cons x l =>
      rw [if_neg (by rw [List.length_cons]; omega)] at ok
      have ea : ans = x := Int32.toInt_inj.mp ok.2
      subst ea
      exact ⟨_, w, (C.pf hp).b1, (FP.set (FP.set (FP.set (FP.set (FP.refl _) (by decide)) (by decide)) (by decide)) (by decide))⟩
  · exfalso
    rw [if_pos (by omega), List.length_append] at L
    have := L.1
    simp at this
    omega
  · rw [if_pos (by omega)] at C
    have c := C.tl hp (by rw [List.length_append]; simp)
    rw [List.dropLast_concat] at c
    exact ⟨_, w, c.b1.up (by omega), (FP.set (FP.set (FP.refl _) (by decide)) (by decide))⟩

theorem k_undo_deque {d c i p n : Nat} {h : Hp} {op a b mo how ans : Int32} {l : List Int32} {r : Option Value × Hp × Nat} (S : SH h.2) (hc : c < 5) (hi : i < 8) (HD : ADT h c i op a b mo how ans) (hk : (h.1 212 6).toInt = 2) (hp : p ≤ 12) (ho4 : 0 ≤ op.toInt ∧ op.toInt ≤ 4) {xb : Int32} (ok : okD op.toInt a how ans (h.1 212 7).toInt l n) (hl12 : l.length ≤ p) (hn : n ≤ p) (C : CAq h (nxDl op.toInt a how l) (nxDn op.toInt how n) p) (e : Ev d 123 (0, [some (.ref 212), some (.ref (152 + 12 * c + i)),  some (.int xb)], [], h, fl_tot) r) : ∃ h', r = (none, h', fl_tot) ∧ CAq h' l n (p + 1) ∧ FP h h' := by
  have L := C.ln hp
  unfold okD at ok
  unfold nxDl nxDn at C L
  rcases y_undo_deque S hc hi HD hk e with ⟨q0, q1, q2, q3, w⟩ | ⟨q0, q1, q2, q3, q4, q5, w⟩ | ⟨q0, q1, q2, q3, q4, q5, w⟩ | ⟨q0, q1, q2, q3, q4, q5, q6, w⟩ | ⟨q0, q1, q2, q3, q4, q5, q6, w⟩ | ⟨q0, q1, q2, q3, q4, q5, q6, w⟩ | ⟨q0, q1, q2, q3, q4, q5, q6, q7, w⟩ | ⟨q0, q1, q2, q3, q4, q5, q6, q7, q8, w⟩ | ⟨q0, q1, q2, q3, q4, q5, q6, q7, q8, w⟩
  · rw [if_neg (by omega), if_neg (by omega)] at C
    exact ⟨_, w, C.b1.up (by omega), (FP.set (FP.refl _) (by decide))⟩
  · exfalso
    rw [if_pos (by omega), if_pos (by omega), if_neg (by omega)] at C L
    rw [List.length_append] at L
    have := L.1
    simp at this
    omega
  · 
    rw [if_pos (by omega), if_pos (by omega), if_neg (by omega)] at C L
    have c := C.tl hp (by rw [List.length_append]; simp)
    rw [List.dropLast_concat] at c
    exact ⟨_, w, c.b1.up (by omega), (FP.set (FP.set (FP.refl _) (by decide)) (by decide))⟩
  · 
    rw [if_pos (by omega), if_neg (by omega), if_pos (by omega), if_neg (by omega)] at C L
    have c := C.tf hp (by rw [List.length_cons]; omega)
    exact ⟨_, w, c.b1.up (by omega), (FP.set (FP.set (FP.set (FP.refl _) (by decide)) (by decide)) (by decide))⟩
  · exfalso
    rw [if_pos (by omega), if_neg (by omega), if_pos (by omega), if_neg (by omega)] at C L
    rw [List.length_cons] at L
    omega
  · 
    rw [if_pos (by omega), if_neg (by omega), if_neg (by omega), if_pos (by omega), if_neg (by omega)] at C L
    rw [if_neg (by omega), if_neg (by omega)] at ok
    by_cases y : l.length = 0
    · rw [if_pos y] at ok
      omega
    · rw [if_neg y, if_pos (by omega)] at ok
      cases l with
      | nil => exact absurd rfl y
      | cons x l =>
        have ea : ans = x := Int32.toInt_inj.mp ok.2
        subst ea
        exact ⟨_, w, (C.pf hp).b1, (FP.set (FP.set (FP.set (FP.set (FP.refl _) (by decide)) (by decide)) (by decide)) (by decide))⟩
  · 
    rw [if_pos (by omega), if_neg (by omega), if_neg (by omega), if_neg (by omega), if_neg (by omega), if_neg (by omega)] at C L
    rw [if_neg (by omega), if_neg (by omega)] at ok
    by_cases y : l.length = 0
    · rw [if_pos y] at ok
      omega
    · rw [if_neg y, if_neg (by omega)] at ok
      have c := C.pl (v := ans) hp
      have e : l.dropLast ++ [ans] = l := by
        have g : l[l.length - 1]? = some l[l.length - 1] := List.getElem?_eq_getElem (by omega)
        rw [g] at ok
        have ea : ans = l[l.length - 1] := Int32.toInt_inj.mp ok.2
        rw [ea]
        have nl : l ≠ [] := fun z => y (by rw [z]; rfl)
        have := List.dropLast_concat_getLast nl
        rw [List.getLast_eq_getElem] at this
        exact this
      rw [e] at c
      exact ⟨_, w, c.b1, (FP.set (FP.set (FP.set (FP.refl _) (by decide)) (by decide)) (by decide))⟩
  · 
    rw [if_pos (by omega), if_neg (by omega), if_neg (by omega), if_neg (by omega), if_pos (by omega), if_pos (by omega)] at C L
    exact ⟨_, w, (CAq.cm C (by omega)).b1.up (by omega), (FP.set (FP.set (FP.refl _) (by decide)) (by decide))⟩
  · exfalso; omega

theorem k_undo_counter {d c i m : Nat} {h : Hp} {op a b mo how ans : Int32} {g : Nat → Int32} {r : Option Value × Hp × Nat} (S : SH h.2) (hc : c < 5) (hi : i < 8) (HD : ADT h c i op a b mo how ans) (hk : (h.1 212 6).toInt = 3) (hm : op.toInt ≠ 1 → mo = Int32.ofNat m ∧ m < 4) {xb : Int32} (ok : okC op.toInt m a how ans g) (C : CAs h (nxC op.toInt m ans g)) (e : Ev d 123 (0, [some (.ref 212), some (.ref (152 + 12 * c + i)),  some (.int xb)], [], h, fl_tot) r) : ∃ h', r = (none, h', fl_tot) ∧ CAs h' g ∧ FP h h' := by
  unfold okC at ok
  unfold nxC at C
  rcases y_undo_counter S hc hi HD hk e with ⟨q0, q1, q2, q3, q4, w⟩ | ⟨q0, q1, q2, q3, q4, w⟩
  · rw [if_pos (by omega)] at C
    exact ⟨_, w, C.b1, (FP.set (FP.refl _) (by decide))⟩
  · rw [if_neg (by omega)] at C ok
    obtain ⟨rfl, m4⟩ := hm (by omega)
    refine ⟨_, w, ?_, (FP.set (FP.set (FP.set (FP.refl _) (by decide)) (by decide)) (by decide))⟩
    have ea : ans = g m + a := Int32.toInt_inj.mp ok.2
    have c := (C.put (v := ans - a) (x := (h.1 213 1) ||| ((Int32.ofInt 1) <<< (((Int32.ofNat m) &&& (Int32.ofInt 31)) &&& 31))) m4).b1 (x := xb)
    have e : gset (gset g m ans) m (ans - a) = g := by
      funext j
      by_cases z : j = m
      · rw [z, gset_at, ea, Int32.add_sub_cancel]
      · rw [gset_no z, gset_no z]
    rw [e] at c
    exact c
