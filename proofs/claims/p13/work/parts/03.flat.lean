/-! THE FLAT MACHINE: cells by number, two heaps (whole numbers, references), code by number -/
/-- the plan of the cells, in the order in which they are made: kind (below 20: an object of that class; 20, 21: ints, booleans; 30 and more: references to objects of that class), size -/
def fl_l0 : List (Nat × Nat) := [(9, 8), (4, 4), (38, 6), (33, 5), (8, 12), (1, 5), (20, 64), (37, 4), (20, 4), (20, 32), (20, 32), (20, 32), (7, 9), (20, 8), (20, 8), (20, 8), (7, 9), (20, 8), (20, 8), (20, 8), (7, 9), (20, 8), (20, 8), (20, 8), (7, 9), (20, 8), (20, 8), (20, 8), (8, 12), (1, 5), (20, 64), (37, 4), (20, 4), (20, 32), (20, 32), (20, 32), (7, 9), (20, 8), (20, 8), (20, 8), (7, 9), (20, 8), (20, 8), (20, 8), (7, 9), (20, 8), (20, 8), (20, 8), (7, 9), (20, 8), (20, 8), (20, 8), (8, 12), (1, 5), (20, 64), (37, 4), (20, 4), (20, 32), (20, 32), (20, 32)]
def fl_l1 : List (Nat × Nat) := [(7, 9), (20, 8), (20, 8), (20, 8), (7, 9), (20, 8), (20, 8), (20, 8), (7, 9), (20, 8), (20, 8), (20, 8), (7, 9), (20, 8), (20, 8), (20, 8), (8, 12), (1, 5), (20, 64), (37, 4), (20, 4), (20, 32), (20, 32), (20, 32), (7, 9), (20, 8), (20, 8), (20, 8), (7, 9), (20, 8), (20, 8), (20, 8), (7, 9), (20, 8), (20, 8), (20, 8), (7, 9), (20, 8), (20, 8), (20, 8), (8, 12), (1, 5), (20, 64), (37, 4), (20, 4), (20, 32), (20, 32), (20, 32), (7, 9), (20, 8), (20, 8), (20, 8), (7, 9), (20, 8), (20, 8), (20, 8), (7, 9), (20, 8), (20, 8), (20, 8)]
def fl_l2 : List (Nat × Nat) := [(7, 9), (20, 8), (20, 8), (20, 8), (8, 12), (1, 5), (20, 64), (37, 4), (20, 4), (20, 32), (20, 32), (20, 32), (7, 9), (20, 8), (20, 8), (20, 8), (7, 9), (20, 8), (20, 8), (20, 8), (7, 9), (20, 8), (20, 8), (20, 8), (7, 9), (20, 8), (20, 8), (20, 8), (3, 5), (30, 8), (1, 5), (20, 64), (0, 19), (0, 19), (0, 19), (0, 19), (0, 19), (0, 19), (0, 19), (0, 19), (3, 5), (30, 8), (1, 5), (20, 64), (0, 19), (0, 19), (0, 19), (0, 19), (0, 19), (0, 19), (0, 19), (0, 19), (3, 5), (30, 8), (1, 5), (20, 64), (0, 19), (0, 19), (0, 19), (0, 19)]
def fl_l3 : List (Nat × Nat) := [(0, 19), (0, 19), (0, 19), (0, 19), (3, 5), (30, 8), (1, 5), (20, 64), (0, 19), (0, 19), (0, 19), (0, 19), (0, 19), (0, 19), (0, 19), (0, 19), (3, 5), (30, 8), (1, 5), (20, 64), (0, 19), (0, 19), (0, 19), (0, 19), (0, 19), (0, 19), (0, 19), (0, 19), (6, 7), (20, 320), (20, 600), (20, 600), (2, 13), (1, 5), (20, 64), (30, 12), (20, 12), (20, 12), (5, 8), (20, 600), (20, 5), (20, 4800), (20, 600), (10, 75), (20, 6), (20, 6), (20, 6), (20, 5), (20, 40), (20, 40), (20, 40), (20, 40), (20, 40), (20, 600), (20, 192), (20, 80), (21, 80), (20, 80), (20, 40), (20, 40)]
def fl_l4 : List (Nat × Nat) := [(20, 40), (20, 40), (20, 40), (20, 5), (20, 5), (21, 5), (20, 5), (21, 5), (20, 5), (21, 5), (21, 5), (21, 5), (21, 160), (20, 160), (20, 24), (21, 192), (20, 192), (20, 192), (21, 192), (20, 192), (20, 288), (20, 6), (21, 6), (20, 24), (21, 192), (20, 192), (20, 24), (21, 24), (20, 24), (20, 6), (20, 6), (20, 6), (20, 6), (20, 5), (20, 40), (20, 12), (21, 12), (20, 13), (21, 32), (20, 32), (20, 12), (20, 4), (20, 600), (20, 600), (20, 4800)]
def fl_ll : List (Nat × Nat) := fl_l0 ++ fl_l1 ++ fl_l2 ++ fl_l3 ++ fl_l4
abbrev fl_tot : Nat := 285
/-- what the static arrays hold -/
def fl_st : List (List Int32) := [[2], [0, 2, 1], [0, 2, 1, 3], [0, 2, 3, 1], [0, 4, 1, 3], [0, 4, 3, 1], [0, 0, 0, 0, 2, 1, 1, 1, 1], [0, 4, 5, 1, 6, 0, 1, 3], [0, 4, 5, 1, 6, 0, 3, 1], [0, 4, 1]]
abbrev vwCl : List vw_C := [(RX0, TX0, 19), (RX1, TX1, 5), (RX2, TX2, 13), (RX3, TX3, 5), (RX4, TX4, 4), (RX5, TX5, 8), (RX6, TX6, 7), (RX7, TX7, 9), (RX8, TX8, 12), (RX9, TX9, 8), (RX10, TX10, 75)]
def fl_ty : List (Nat → FieldType) := [tyX0, tyX1, tyX2, tyX3, tyX4, tyX5, tyX6, tyX7, tyX8, tyX9, tyX10]
def fl_N : List Nat := [19, 5, 13, 5, 4, 8, 7, 9, 12, 8, 75]
def fl_lay (k : Nat) : Nat × Nat := (fl_ll[k]?).getD (99, 0)
abbrev Hp : Type := (Nat → Nat → Int32) × (Nat → Nat → Option Nat)
/-- a state of one method: place, locals, stack, heap, how many cells are made -/
abbrev Cfg : Type := Nat × List (Option Value) × List Value × Hp × Nat
def fl_setI (h : Hp) (k j : Nat) (v : Int32) : Hp := (fun a b => if a = k ∧ b = j then v else h.1 a b, h.2)
def fl_setR (h : Hp) (k j : Nat) (v : Option Nat) : Hp := (h.1, fun a b => if a = k ∧ b = j then v else h.2 a b)
def fl_zero (h : Hp) (k : Nat) : Hp := (fun a b => if a = k then 0 else h.1 a b, fun a b => if a = k then none else h.2 a b)
def fl_copy (h : Hp) (a sp b dp n : Nat) : Hp := (fun k j => if k = b then (if dp ≤ j ∧ j < dp + n then h.1 a (sp + (j - dp)) else h.1 b j) else h.1 k j, h.2)
/-- kinds of fields: 0 int, 1 boolean, 2 reference, 3 none -/
def fl_kind (ci k : Nat) : Nat := match fl_ty[ci]? with
  | none => 3
  | some f => if k < (fl_N[ci]?).getD 0 then (match f k with
    | .int => 0
    | .boolean => 1
    | .object _ => 2
    | .array _ => 2
    | _ => 3) else 3
def fl_rv : Option Nat → Value
  | none => .null
  | some a => .ref a
def fl_vr : Value → Option (Option Nat)
  | .null => some none
  | .ref a => some (some a)
  | _ => none
/-- the length of an array: a cell of ours, a static one, the script (its length lies in cell 1011) -/
def fl_len (h : Hp) (k : Nat) : Nat := if k < 1000 then (fl_lay k).2 else if k = 1010 then (h.1 1011 0).toNatClampNeg else ((fl_st[k - 1000]?).getD []).length
/-- may an int be read there: an array of ints that is made, or a static one -/
def fl_isI (n k : Nat) : Bool := if k < 1000 then decide (k < n) && (fl_lay k).1 == 20 else decide (k ≤ 1010)
def fl_bin (o : Int) (x y : Int32) : Option Int32 := match o with
  | 0 => some (x + y)
  | 1 => some (x - y)
  | 2 => some (x * y)
  | 3 => if y = 0 then none else some (x / y)
  | 4 => if y = 0 then none else some (x - x / y * y)
  | 5 => some (x <<< (y &&& 31))
  | 6 => some (x >>> (y &&& 31))
  | 7 => some ((x.toUInt32 >>> (y.toUInt32 &&& Int32.toUInt32 31)).toInt32)
  | 8 => some (x &&& y)
  | 9 => some (x ||| y)
  | 10 => some (x ^^^ y)
  | _ => none
def fl_cmp (o : Int) (x y : Int32) : Option Bool := match o with
  | 0 => some (decide (x = y))
  | 1 => some (decide (x ≠ y))
  | 2 => some (decide (x < y))
  | 3 => some (decide (y ≤ x))
  | 4 => some (decide (y < x))
  | 5 => some (decide (x ≤ y))
  | _ => none
def fl_in (i : Int32) (n : Nat) : Bool := decide (¬ i < 0) && decide (i.toNatClampNeg < n)
def fl_bit (x : Int32) : Bool := decide (x = 0) || decide (x = 1)
/-- what a step comes to: a next state; a call (method, arguments, the stack behind it, the place behind it); an end -/
abbrev Out : Type := Cfg ⊕ ((Nat × List Value × List Value × Nat) ⊕ Option Value)
def fl_nolong (ls : List (Option Value)) : Nat → Bool
  | 0 => true
  | j + 1 => match ls[j]? with
    | some (some v) => v.category == 1
    | _ => true
def fl_store (ls : List (Option Value)) (i : Nat) (v : Value) : Option (List (Option Value)) :=
  if fl_nolong ls i then
    match v with
    | .long x => if i + 1 < ls.length then some ((ls.set i (some (.long x))).set (i + 1) none) else none
    | .int x => if i < ls.length then some (ls.set i (some (.int x))) else none
    | .ref x => if i < ls.length then some (ls.set i (some (.ref x))) else none
    | .null => if i < ls.length then some (ls.set i (some .null)) else none
    | _ => none
  else none
/-- sorts of values: 0 int, 1 long, 2 reference or null -/
def fl_is (t : Int) : Value → Bool
  | .int _ => t == 0
  | .long _ => t == 1
  | .ref _ => t == 2
  | .null => t == 2
  | _ => false
/-- the locals at a method's start -/
def fl_args : List Value → List (Option Value)
  | [] => []
  | v :: vs => if v.category = 2 then some v :: none :: fl_args vs else some v :: fl_args vs
def fl_enter (nL : Nat) (vs : List Value) : List (Option Value) := fl_args vs ++ List.replicate (nL - (fl_args vs).length) none
def fl_cat (vs : List Value) : Nat := (vs.map fun v => v.category).sum
/-- a call: the arguments off the stack (last one first), room on the stack, a receiver of the class -/
def fl_call (virt : Bool) (inst : Nat) (m n nx : Nat) (ls : List (Option Value)) (st : List Value) (h : Hp) (nc : Nat) : Option Out :=
  if st.length < n + inst then none else
  let as := (st.take (n + inst)).reverse
  let rest := st.drop (n + inst)
  if fl_cat rest ≤ 8 then
    if virt then
      match as with
      | .ref b :: _ => if b < nc ∧ (fl_lay b).1 = ((sm_ms[m]?).map fun q => q.2.2.2.2).getD 98 then some (.inr (.inl (m, as, rest, nx))) else none
      | _ => none
    else
      if inst = 1 then (match as with
      | .ref _ :: _ => some (.inr (.inl (m, as, rest, nx)))
      | _ => none)
      else some (.inr (.inl (m, as, rest, nx)))
  else none
def fl_step (q : Smi) (c : Cfg) : Option Out := match q, c with
  | (op, a, nx), (pc, ls, st, h, n) => match op with
    | 1 => match a with
      | [v] => some (.inl (nx, ls, .int (Int32.ofInt v) :: st, h, n))
      | _ => none
    | 2 => match a with
      | [i, t] => match ls[i.toNat]? with
        | some (some v) => if fl_is t v then some (.inl (nx, ls, v :: st, h, n)) else none
        | _ => none
      | _ => none
    | 3 => match a, st with
      | [i, t], v :: st => if fl_is t v then (match fl_store ls i.toNat v with
        | some ls => some (.inl (nx, ls, st, h, n))
        | none => none) else none
      | _, _ => none
    | 4 => match a with
      | [i, d] => match ls[i.toNat]? with
        | some (some (.int x)) => match fl_store ls i.toNat (.int (x + Int32.ofInt d)) with
          | some ls => some (.inl (nx, ls, st, h, n))
          | none => none
        | _ => none
      | _ => none
    | 5 => match a, st with
      | [o], .int y :: .int x :: st => match fl_bin o x y with
        | some z => some (.inl (nx, ls, .int z :: st, h, n))
        | none => none
      | _, _ => none
    | 6 => match a, st with
      | [o, t], .int x :: st => match fl_cmp o x 0 with
        | some b => some (.inl (if b then t.toNat else nx, ls, st, h, n))
        | none => none
      | _, _ => none
    | 7 => match a, st with
      | [o, t], .int y :: .int x :: st => match fl_cmp o x y with
        | some b => some (.inl (if b then t.toNat else nx, ls, st, h, n))
        | none => none
      | _, _ => none
    | 8 => match a with
      | [t] => some (.inl (t.toNat, ls, st, h, n))
      | _ => none
    | 9 => match a, st with
      | [ci, k], .ref r :: st => if r < n ∧ fl_lay r = (ci.toNat, (fl_N[ci.toNat]?).getD 0) then
          (match fl_kind ci.toNat k.toNat with
          | 0 => some (.inl (nx, ls, .int (h.1 r k.toNat) :: st, h, n))
          | 1 => some (.inl (nx, ls, .int (h.1 r k.toNat) :: st, h, n))
          | 2 => some (.inl (nx, ls, fl_rv (h.2 r k.toNat) :: st, h, n))
          | _ => none) else none
      | _, _ => none
    | 10 => match a, st with
      | [ci, k], v :: .ref r :: st => if r < n ∧ fl_lay r = (ci.toNat, (fl_N[ci.toNat]?).getD 0) then
          (match fl_kind ci.toNat k.toNat, v with
          | 0, .int x => some (.inl (nx, ls, st, fl_setI h r k.toNat x, n))
          | 1, .int x => if fl_bit x then some (.inl (nx, ls, st, fl_setI h r k.toNat x, n)) else none
          | 2, .ref b => some (.inl (nx, ls, st, fl_setR h r k.toNat (some b), n))
          | 2, .null => some (.inl (nx, ls, st, fl_setR h r k.toNat none, n))
          | _, _ => none) else none
      | _, _ => none
    | 11 => match st with
      | .int i :: .ref r :: st => if fl_isI n r && fl_in i (fl_len h r) then some (.inl (nx, ls, .int (h.1 r i.toNatClampNeg) :: st, h, n)) else none
      | _ => none
    | 12 => match st with
      | .int x :: .int i :: .ref r :: st => if r < n ∧ (fl_lay r).1 = 20 ∧ fl_in i (fl_lay r).2 = true then some (.inl (nx, ls, st, fl_setI h r i.toNatClampNeg x, n)) else none
      | _ => none
    | 13 => match st with
      | .int i :: .ref r :: st => if r < n ∧ (fl_lay r).1 = 21 ∧ fl_in i (fl_lay r).2 = true then some (.inl (nx, ls, .int (h.1 r i.toNatClampNeg) :: st, h, n)) else none
      | _ => none
    | 14 => match st with
      | .int x :: .int i :: .ref r :: st => if r < n ∧ (fl_lay r).1 = 21 ∧ fl_in i (fl_lay r).2 = true ∧ fl_bit x = true ∧ n = fl_tot then some (.inl (nx, ls, st, fl_setI h r i.toNatClampNeg x, n)) else none
      | _ => none
    | 15 => match st with
      | .int i :: .ref r :: st => if r < n ∧ 30 ≤ (fl_lay r).1 ∧ (fl_lay r).1 < 41 ∧ fl_in i (fl_lay r).2 = true then some (.inl (nx, ls, fl_rv (h.2 r i.toNatClampNeg) :: st, h, n)) else none
      | _ => none
    | 16 => match st with
      | .ref b :: .int i :: .ref r :: st => if r < n ∧ 30 ≤ (fl_lay r).1 ∧ (fl_lay r).1 < 41 ∧ fl_in i (fl_lay r).2 = true ∧ b < n ∧ (fl_lay b).1 + 30 = (fl_lay r).1 then some (.inl (nx, ls, st, fl_setR h r i.toNatClampNeg (some b), n)) else none
      | _ => none
    | 17 => match st with
      | .ref r :: st => if r < n ∧ 20 ≤ (fl_lay r).1 ∧ (fl_lay r).1 < 41 ∨ 1000 ≤ r ∧ r ≤ 1010 then some (.inl (nx, ls, .int (Int32.ofNat (fl_len h r)) :: st, h, n)) else none
      | _ => none
    | 18 => match a with
      | [m, k] => fl_call true 1 m.toNat k.toNat nx ls st h n
      | _ => none
    | 19 => match a with
      | [m, k] => fl_call false 0 m.toNat k.toNat nx ls st h n
      | _ => none
    | 20 => match a with
      | [m, k] => fl_call false 1 m.toNat k.toNat nx ls st h n
      | _ => none
    | 21 => match st with
      | [] => some (.inr (.inr none))
      | _ => none
    | 22 => match a, st with
      | [r], [.int x] => if r = 0 ∨ fl_bit x = true then some (.inr (.inr (some (.int x)))) else none
      | _, _ => none
    | 23 => match st with
      | [.long x] => some (.inr (.inr (some (.long x))))
      | _ => none
    | 24 => match st with
      | [.ref b] => some (.inr (.inr (some (.ref b))))
      | [.null] => some (.inr (.inr (some .null)))
      | _ => none
    | 25 => match st with
      | v :: st => if v.category = 1 then some (.inl (nx, ls, v :: v :: st, h, n)) else none
      | _ => none
    | 26 => match st with
      | .long x :: st => some (.inl (nx, ls, .long x :: .long x :: st, h, n))
      | v :: w :: st => if v.category = 1 ∧ w.category = 1 then some (.inl (nx, ls, v :: w :: v :: w :: st, h, n)) else none
      | _ => none
    | 27 => match st with
      | v :: st => if v.category = 1 then some (.inl (nx, ls, st, h, n)) else none
      | _ => none
    | 28 => match st with
      | .long _ :: st => some (.inl (nx, ls, st, h, n))
      | v :: w :: st => if v.category = 1 ∧ w.category = 1 then some (.inl (nx, ls, st, h, n)) else none
      | _ => none
    | 29 => match a with
      | [ci] => if n < fl_tot ∧ fl_lay n = (ci.toNat, (fl_N[ci.toNat]?).getD 0) then some (.inl (nx, ls, .ref n :: st, fl_zero h n, n + 1)) else none
      | _ => none
    | 30 => match a, st with
      | [k], .int x :: st => if n < fl_tot ∧ ¬ x < 0 ∧ fl_lay n = (k.toNat, x.toNatClampNeg) then some (.inl (nx, ls, .ref n :: st, fl_zero h n, n + 1)) else none
      | _, _ => none
    | 31 => match a, st with
      | [ci], .int x :: st => if n < fl_tot ∧ ¬ x < 0 ∧ fl_lay n = (30 + ci.toNat, x.toNatClampNeg) then some (.inl (nx, ls, .ref n :: st, fl_zero h n, n + 1)) else none
      | _, _ => none
    | 32 => match a with
      | [j] => some (.inl (nx, ls, .ref (1000 + j.toNat) :: st, h, n))
      | _ => none
    | 33 => match a, st with
      | [t], .null :: st => some (.inl (t.toNat, ls, st, h, n))
      | [_], .ref _ :: st => some (.inl (nx, ls, st, h, n))
      | _, _ => none
    | 34 => match a, st with
      | [_], .null :: st => some (.inl (nx, ls, st, h, n))
      | [t], .ref _ :: st => some (.inl (t.toNat, ls, st, h, n))
      | _, _ => none
    | 35 => some (.inl (nx, ls, .null :: st, h, n))
    | 36 => match st with
      | .int x :: st => some (.inl (nx, ls, .long x.toInt64 :: st, h, n))
      | _ => none
    | 37 => match st with
      | .long y :: .long x :: st => some (.inl (nx, ls, .long (x + y) :: st, h, n))
      | _ => none
    | 38 => match st with
      | .long y :: .long x :: st => some (.inl (nx, ls, .long (x * y) :: st, h, n))
      | _ => none
    | 39 => match a with
      | [v] => some (.inl (nx, ls, .long (Int64.ofInt v) :: st, h, n))
      | _ => none
    | 40 => match a, st with
      | lo :: df :: ts, .int x :: st =>
        if x.toInt < lo then some (.inl (df.toNat, ls, st, h, n)) else
        match ts[(x.toInt - lo).toNat]? with
        | some t => some (.inl (t.toNat, ls, st, h, n))
        | none => some (.inl (df.toNat, ls, st, h, n))
      | _, _ => none
    | 41 => match st with
      | .int k :: .int dp :: .ref b :: .int sp :: .ref r :: st =>
        if n = fl_tot ∧ r < n ∧ b < n ∧ (fl_lay r).1 = 20 ∧ (fl_lay b).1 = 20 ∧ ¬ sp < 0 ∧ ¬ dp < 0 ∧ ¬ k < 0 ∧ sp.toNatClampNeg + k.toNatClampNeg ≤ (fl_lay r).2 ∧ dp.toNatClampNeg + k.toNatClampNeg ≤ (fl_lay b).2 ∧ fl_cat st ≤ 8 then
          some (.inl (nx, ls, st, fl_copy h r sp.toNatClampNeg b dp.toNatClampNeg k.toNatClampNeg, n)) else none
      | _ => none
    | 42 => match st with
      | .ref _ :: st => if fl_cat st ≤ 8 then some (.inl (nx, ls, st, h, n)) else none
      | _ => none
    | _ => none
def fl_code (m pc : Nat) : Option Smi := match sm_cs[m]? with
  | some l => l.lookup pc
  | none => none
/-- the machine: at most f steps in all, at most d calls within one another -/
def fl_run : Nat → Nat → Nat → Cfg → Option (Option Value × Hp × Nat)
  | 0, _, _, _ => none
  | f + 1, d, m, c => match fl_code m c.1 with
    | none => none
    | some q => match fl_step q c with
      | none => none
      | some (.inl c') => fl_run f d m c'
      | some (.inr (.inr v)) => some (v, c.2.2.2.1, c.2.2.2.2)
      | some (.inr (.inl (m2, as, rest, nx))) => match d with
        | 0 => none
        | d' + 1 => match sm_ms[m2]? with
          | none => none
          | some y => if (fl_args as).length ≤ y.2.2.1 then (match fl_run f d' m2 (0, fl_enter y.2.2.1 as, [], c.2.2.2.1, c.2.2.2.2) with
            | none => none
            | some (v, h, n) => fl_run f d m (nx, c.2.1, v.toList ++ rest, h, n)) else none

