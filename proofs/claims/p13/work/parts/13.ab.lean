/-! A CHECKER OF METHODS: intervals for whole numbers (by names of values), kinds for references -/
/-- a value as the checker knows it: sort (1 int, 2 reference, 3 null, 4 reference or null, 5 long, else nothing), name, offset (int) or kind -/
abbrev AV : Type := Nat × Nat × Int
/-- a type: sort, bounds (int) or kind -/
abbrev TY : Type := Nat × Int × Int
/-- locals, stack, bounds of the named values, fields read (name of the cell, kind, slot, value) -/
abbrev AS : Type := List AV × List AV × List (Int × Int) × List (Nat × Nat × Nat × AV)
/-- a kind of cells: code of the plan (below 20 its class, 20, 21, 30 and more arrays, 50 the static arrays), size, types of its slots (an array: one) -/
abbrev KI : Type := Nat × Nat × List TY
def ab_kd (r : Nat) : Nat := if r < 1000 then (ab_kl[r]?).getD 9999 else if r < 1010 then 0 else 9999
def ab_lim (lo hi : Int) : Bool := decide (-2147483648 ≤ lo) && decide (hi ≤ 2147483647)
def ab_full : Int × Int := (-2147483648, 2147483647)
def ab_bnd (env : List (Int × Int)) (a : AV) : Option (Int × Int) := if a.1 = 1 then (match env[a.2.1]? with
  | some b => if b.2 < b.1 then none else some (b.1 + a.2.2, b.2 + a.2.2)
  | none => none) else none
def ab_min (a b : Int) : Int := if a ≤ b then a else b
def ab_max (a b : Int) : Int := if a ≤ b then b else a
def ab_bin (o : Int) (x y : Int × Int) : Option (Int × Int) := match o with
  | 0 => if ab_lim (x.1 + y.1) (x.2 + y.2) then some (x.1 + y.1, x.2 + y.2) else some ab_full
  | 1 => if ab_lim (x.1 - y.2) (x.2 - y.1) then some (x.1 - y.2, x.2 - y.1) else some ab_full
  | 2 => if 0 ≤ x.1 ∧ 0 ≤ y.1 ∧ x.2 * y.2 ≤ 2147483647 then some (0, x.2 * y.2) else some ab_full
  | 3 => if 0 ≤ x.1 ∧ 1 ≤ y.1 then some (0, x.2) else if 1 ≤ y.1 ∨ y.2 ≤ -1 then some ab_full else none
  | 4 => if 0 ≤ x.1 ∧ 1 ≤ y.1 then some (0, ab_min x.2 (y.2 - 1)) else if 1 ≤ y.1 ∨ y.2 ≤ -1 then some ab_full else none
  | 5 => some ab_full
  | 6 => some ab_full
  | 7 => some ab_full
  | 8 => if 0 ≤ y.1 then some (0, y.2) else if 0 ≤ x.1 then some (0, x.2) else some ab_full
  | 9 => some ab_full
  | 10 => some ab_full
  | _ => none
/-- the bounds of two values of which a comparison holds; none: it can't hold -/
def ab_cmp (o : Int) (x y : Int × Int) : Option ((Int × Int) × (Int × Int)) :=
  let r : (Int × Int) × (Int × Int) := match o with
    | 0 => ((ab_max x.1 y.1, ab_min x.2 y.2), (ab_max x.1 y.1, ab_min x.2 y.2))
    | 1 => if y.1 = y.2 then ((if x.1 = y.1 then x.1 + 1 else x.1, if x.2 = y.1 then x.2 - 1 else x.2), y) else (x, y)
    | 2 => ((x.1, ab_min x.2 (y.2 - 1)), (ab_max y.1 (x.1 + 1), y.2))
    | 3 => ((ab_max x.1 y.1, x.2), (y.1, ab_min y.2 x.2))
    | 4 => ((ab_max x.1 (y.1 + 1), x.2), (y.1, ab_min y.2 (x.2 - 1)))
    | 5 => ((x.1, ab_min x.2 y.2), (ab_max y.1 x.1, y.2))
    | _ => (x, y)
  if r.1.2 < r.1.1 ∨ r.2.2 < r.2.1 then none else some r
def ab_neg (o : Int) : Int := match o with
  | 0 => 1
  | 1 => 0
  | 2 => 3
  | 3 => 2
  | 4 => 5
  | 5 => 4
  | _ => 9
/-- the named value of a is known to lie within b -/
def ab_set (env : List (Int × Int)) (a : AV) (b : Int × Int) : List (Int × Int) := env.set a.2.1 (b.1 - a.2.2, b.2 - a.2.2)
def ab_put (env : List (Int × Int)) (st : List AV) (t : TY) : Option (List AV × List (Int × Int) × AV) := match t.1 with
  | 1 => some ((1, env.length, 0) :: st, env ++ [(t.2.1, t.2.2)], (1, env.length, 0))
  | 2 => some ((2, env.length, t.2.1) :: st, env ++ [(1, 0)], (2, env.length, t.2.1))
  | 4 => some ((4, env.length, t.2.1) :: st, env ++ [(1, 0)], (4, env.length, t.2.1))
  | 5 => some ((5, 0, 0) :: st, env, (5, 0, 0))
  | _ => none
/-- does a value fit a type -/
def ab_fits (env : List (Int × Int)) (a : AV) (t : TY) : Bool := match t.1 with
  | 1 => (match ab_bnd env a with
    | some b => decide (t.2.1 ≤ b.1) && decide (b.2 ≤ t.2.2)
    | none => false)
  | 2 => a.1 == 2 && a.2.2 == t.2.1
  | 4 => a.1 == 3 || ((a.1 == 2 || a.1 == 4) && a.2.2 == t.2.1)
  | 5 => a.1 == 5
  | 0 => a.1 != 5
  | _ => false
def ab_cat (st : List AV) : Nat := (st.map fun a => if a.1 = 5 then 2 else 1).sum
def ab_one (a : AV) : Bool := a.1 == 1 || a.1 == 2 || a.1 == 3 || a.1 == 4
/-- a reference that may be null is known to be one -/
def ab_nn (i : Nat) (a : AV) : AV := if a.1 = 4 ∧ a.2.1 = i then (2, a.2.1, a.2.2) else a
/-- no long stands ahead of it -/
def ab_nl (ls : List AV) : Nat → Bool
  | 0 => true
  | j + 1 => match ls[j]? with
    | some b => b.1 != 5
    | none => true
/-- storing a local -/
def ab_store (ls : List AV) (i : Nat) (a : AV) : Option (List AV) :=
  if ab_nl ls i = true then
    if a.1 = 5 then (if i + 1 < ls.length then some ((ls.set i a).set (i + 1) (0, 0, 0)) else none)
    else if ab_one a then (if i < ls.length then some (ls.set i a) else none) else none
  else none
def ab_sort (t : Int) (a : AV) : Bool := (t == 0 && a.1 == 1) || (t == 1 && a.1 == 5) || (t == 2 && (a.1 == 2 || a.1 == 3 || a.1 == 4))
def ab_range (env : List (Int × Int)) (i : AV) (n : Nat) : Bool := match ab_bnd env i with
  | some b => decide (0 ≤ b.1) && decide (b.2 < (n : Int))
  | none => false
/-- the kind is of objects of the class ci, with a slot j -/
def ab_obj (kn ci j : Nat) : Bool := match ab_K[kn]? with
  | some (code, size, _) => code == ci && decide (j < size) && (fl_N[ci]?).getD 0 == size && decide (fl_kind ci j ≤ 2) && decide (1 ≤ kn)
  | none => false
/-- the first name is 0 -/
def ab_z : List (Int × Int) → Bool
  | b :: _ => b == (0, 0)
  | [] => false
/-- one step: the next places and states; mods: the kinds that may be written -/
def ab_step (mods : List Nat) (q : Smi) (s : AS) : Option (List (Nat × AS)) := match q, s with
  | (op, a, nx), (ls, st, env, ca) => match op with
    | 1 => match a with
      | [v] => if (ab_lim v v && ab_z env) = true then some [(nx, ls, (1, 0, v) :: st, env, ca)] else none
      | _ => none
    | 2 => match a with
      | [i, t] => match ls[i.toNat]? with
        | some v => if ab_sort t v then some [(nx, ls, v :: st, env, ca)] else none
        | none => none
      | _ => none
    | 3 => match a, st with
      | [i, t], v :: st => if ab_sort t v then (match ab_store ls i.toNat v with
        | some ls => some [(nx, ls, st, env, ca)]
        | none => none) else none
      | _, _ => none
    | 4 => match a with
      | [i, d] => match ls[i.toNat]? with
        | some v => (match ab_bnd env v with
          | some b => if ab_lim d d then (if ab_lim (b.1 + d) (b.2 + d) then (match ab_store ls i.toNat (1, v.2.1, v.2.2 + d) with
              | some ls => some [(nx, ls, st, env, ca)]
              | none => none) else
            (match ab_store ls i.toNat (1, env.length, 0) with
              | some ls => some [(nx, ls, st, env ++ [ab_full], ca)]
              | none => none)) else none
          | none => none)
        | none => none
      | _ => none
    | 5 => match a, st with
      | [o], y :: x :: st => (match ab_bnd env x, ab_bnd env y with
        | some bx, some by' =>
          if o = 0 ∧ by'.1 = by'.2 ∧ ab_lim (bx.1 + by'.1) (bx.2 + by'.1) = true then some [(nx, ls, (1, x.2.1, x.2.2 + by'.1) :: st, env, ca)]
          else if o = 0 ∧ bx.1 = bx.2 ∧ ab_lim (by'.1 + bx.1) (by'.2 + bx.1) = true then some [(nx, ls, (1, y.2.1, y.2.2 + bx.1) :: st, env, ca)]
          else if o = 1 ∧ by'.1 = by'.2 ∧ ab_lim (bx.1 - by'.1) (bx.2 - by'.1) = true then some [(nx, ls, (1, x.2.1, x.2.2 - by'.1) :: st, env, ca)]
          else match ab_bin o bx by' with
            | some b => some [(nx, ls, (1, env.length, 0) :: st, env ++ [b], ca)]
            | none => none
        | _, _ => none)
      | _, _ => none
    | 6 => match a, st with
      | [o, t], x :: st => (match ab_bnd env x with
        | some bx => if 0 ≤ o ∧ o ≤ 5 then some (
            (match ab_cmp o bx (0, 0) with
              | some r => [(t.toNat, ls, st, ab_set env x r.1, ca)]
              | none => []) ++
            (match ab_cmp (ab_neg o) bx (0, 0) with
              | some r => [(nx, ls, st, ab_set env x r.1, ca)]
              | none => [])) else none
        | none => none)
      | _, _ => none
    | 7 => match a, st with
      | [o, t], y :: x :: st => (match ab_bnd env x, ab_bnd env y with
        | some bx, some by' => if 0 ≤ o ∧ o ≤ 5 then some (
            (match ab_cmp o bx by' with
              | some r => [(t.toNat, ls, st, if x.2.1 = y.2.1 then env else ab_set (ab_set env x r.1) y r.2, ca)]
              | none => []) ++
            (match ab_cmp (ab_neg o) bx by' with
              | some r => [(nx, ls, st, if x.2.1 = y.2.1 then env else ab_set (ab_set env x r.1) y r.2, ca)]
              | none => [])) else none
        | _, _ => none)
      | _, _ => none
    | 8 => match a with
      | [t] => some [(t.toNat, ls, st, env, ca)]
      | _ => none
    | 9 => match a, st with
      | [ci, k], v :: st => if v.1 = 2 then
          (match ca.find? (fun e => e.1 == v.2.1 && e.2.2.1 == k.toNat) with
          | some e => if (fl_kind ci.toNat k.toNat == 2) == (e.2.2.2.1 == 2 || e.2.2.2.1 == 4) && ab_obj v.2.2.toNat ci.toNat k.toNat && ab_one e.2.2.2 && e.2.2.2.1 != 3 then some [(nx, ls, e.2.2.2 :: st, env, ca)] else none
          | none => (match ab_K[v.2.2.toNat]? with
            | some (code, size, tys) => if code == ci.toNat && decide (1 ≤ v.2.2.toNat) && decide (k.toNat < size) && (fl_N[ci.toNat]?).getD 0 == size then
                (match tys[k.toNat]? with
                | some t => if (t.1 == 1 && decide (fl_kind ci.toNat k.toNat < 2)) || ((t.1 == 2 || t.1 == 4) && fl_kind ci.toNat k.toNat == 2) then
                    (match ab_put env st t with
                    | some (st', env', v') => some [(nx, ls, st', env', (v.2.1, v.2.2.toNat, k.toNat, v') :: ca)]
                    | none => none) else none
                | none => none) else none
            | none => none)) else none
      | _, _ => none
    | 10 => match a, st with
      | [ci, k], x :: v :: st => if v.1 = 2 ∧ v.2.2.toNat ∈ mods then
          (match ab_K[v.2.2.toNat]? with
          | some (code, size, tys) => if code == ci.toNat && decide (1 ≤ v.2.2.toNat) && decide (k.toNat < size) && (fl_N[ci.toNat]?).getD 0 == size then
              (match tys[k.toNat]? with
              | some t => if ab_fits env x t && ab_one x && ((t.1 == 1 && decide (fl_kind ci.toNat k.toNat < 2) && (fl_kind ci.toNat k.toNat == 0 || (decide (0 ≤ t.2.1) && decide (t.2.2 ≤ 1)))) || ((t.1 == 2 || t.1 == 4) && fl_kind ci.toNat k.toNat == 2)) then
                  some [(nx, ls, st, env, (if x.1 = 3 then [] else [(v.2.1, v.2.2.toNat, k.toNat, x)]) ++ ca.filter (fun e => e.2.1 != v.2.2.toNat || e.2.2.1 != k.toNat))] else none
              | none => none) else none
          | none => none) else none
      | _, _ => none
    | 11 => match st with
      | i :: v :: st => if v.1 = 2 then
          (match ab_K[v.2.2.toNat]? with
          | some (code, size, tys) => if code == 20 && decide (1 ≤ v.2.2.toNat) && ab_range env i size then
              (match tys with
              | [t] => if t.1 = 1 then (match ab_put env st t with
                | some (st', env', _) => some [(nx, ls, st', env', ca)]
                | none => none) else none
              | _ => none) else none
          | none => none) else none
      | _ => none
    | 12 => match st with
      | x :: i :: v :: st => if v.1 = 2 ∧ v.2.2.toNat ∈ mods then
          (match ab_K[v.2.2.toNat]? with
          | some (code, size, tys) => if code == 20 && decide (1 ≤ v.2.2.toNat) && ab_range env i size then
              (match tys with
              | [t] => if t.1 = 1 ∧ ab_fits env x t = true then some [(nx, ls, st, env, ca)] else none
              | _ => none) else none
          | none => none) else none
      | _ => none
    | 13 => match st with
      | i :: v :: st => if v.1 = 2 then
          (match ab_K[v.2.2.toNat]? with
          | some (code, size, tys) => if code == 21 && decide (1 ≤ v.2.2.toNat) && ab_range env i size then
              (match tys with
              | [t] => if t.1 = 1 then (match ab_put env st t with
                | some (st', env', _) => some [(nx, ls, st', env', ca)]
                | none => none) else none
              | _ => none) else none
          | none => none) else none
      | _ => none
    | 14 => match st with
      | x :: i :: v :: st => if v.1 = 2 ∧ v.2.2.toNat ∈ mods then
          (match ab_K[v.2.2.toNat]? with
          | some (code, size, tys) => if code == 21 && decide (1 ≤ v.2.2.toNat) && ab_range env i size then
              (match tys with
              | [t] => if t.1 = 1 ∧ 0 ≤ t.2.1 ∧ t.2.2 ≤ 1 ∧ ab_fits env x t = true then some [(nx, ls, st, env, ca)] else none
              | _ => none) else none
          | none => none) else none
      | _ => none
    | 15 => match st with
      | i :: v :: st => if v.1 = 2 then
          (match ab_K[v.2.2.toNat]? with
          | some (code, size, tys) => if decide (30 ≤ code) && decide (code < 41) && decide (1 ≤ v.2.2.toNat) && ab_range env i size then
              (match tys with
              | [t] => if t.1 = 2 ∨ t.1 = 4 then (match ab_put env st t with
                | some (st', env', _) => some [(nx, ls, st', env', ca)]
                | none => none) else none
              | _ => none) else none
          | none => none) else none
      | _ => none
    | 16 => match st with
      | x :: i :: v :: st => if v.1 = 2 ∧ v.2.2.toNat ∈ mods ∧ x.1 = 2 ∧ 1 ≤ x.2.2.toNat then
          (match ab_K[v.2.2.toNat]?, ab_K[x.2.2.toNat]? with
          | some (code, size, tys), some (code2, _, _) => if decide (30 ≤ code) && decide (code < 41) && decide (1 ≤ v.2.2.toNat) && ab_range env i size && code2 + 30 == code then
              (match tys with
              | [t] => if (t.1 = 2 ∨ t.1 = 4) ∧ ab_fits env x t = true then some [(nx, ls, st, env, ca)] else none
              | _ => none) else none
          | _, _ => none) else none
      | _ => none
    | 17 => match st with
      | v :: st => if v.1 = 2 then
          (if v.2.2.toNat = 0 then some [(nx, ls, (1, env.length, 0) :: st, env ++ [(1, 9)], ca)] else
          (match ab_K[v.2.2.toNat]? with
          | some (code, size, _) => if (decide (20 ≤ code) && decide (code < 41)) && decide (size < 100000) then some [(nx, ls, (1, env.length, 0) :: st, env ++ [((size : Int), (size : Int))], ca)] else none
          | none => none)) else none
      | _ => none
    | 25 => match st with
      | v :: st => if ab_one v then some [(nx, ls, v :: v :: st, env, ca)] else none
      | _ => none
    | 26 => match st with
      | v :: w :: st => if ab_one v && ab_one w then some [(nx, ls, v :: w :: v :: w :: st, env, ca)] else none
      | _ => none
    | 27 => match st with
      | v :: st => if ab_one v then some [(nx, ls, st, env, ca)] else none
      | _ => none
    | 28 => match st with
      | v :: st => if v.1 = 5 then some [(nx, ls, st, env, ca)] else none
      | _ => none
    | 32 => match a with
      | [j] => if 0 ≤ j ∧ j < 10 then some [(nx, ls, (2, env.length, 0) :: st, env ++ [(1, 0)], ca)] else none
      | _ => none
    | 33 => match a, st with
      | [t], v :: st => if v.1 = 2 then some [(nx, ls, st, env, ca)] else if v.1 = 3 then some [(t.toNat, ls, st, env, ca)] else if v.1 = 4 then
          some [(t.toNat, ls, st, env, ca), (nx, ls.map (ab_nn v.2.1), st.map (ab_nn v.2.1), env, ca.map (fun e => (e.1, e.2.1, e.2.2.1, ab_nn v.2.1 e.2.2.2)))] else none
      | _, _ => none
    | 34 => match a, st with
      | [t], v :: st => if v.1 = 2 then some [(t.toNat, ls, st, env, ca)] else if v.1 = 3 then some [(nx, ls, st, env, ca)] else if v.1 = 4 then
          some [(nx, ls, st, env, ca), (t.toNat, ls.map (ab_nn v.2.1), st.map (ab_nn v.2.1), env, ca.map (fun e => (e.1, e.2.1, e.2.2.1, ab_nn v.2.1 e.2.2.2)))] else none
      | _, _ => none
    | 35 => some [(nx, ls, (3, 0, 0) :: st, env, ca)]
    | 36 => match st with
      | v :: st => if v.1 = 1 then some [(nx, ls, (5, 0, 0) :: st, env, ca)] else none
      | _ => none
    | 37 => match st with
      | v :: w :: st => if v.1 = 5 ∧ w.1 = 5 then some [(nx, ls, (5, 0, 0) :: st, env, ca)] else none
      | _ => none
    | 38 => match st with
      | v :: w :: st => if v.1 = 5 ∧ w.1 = 5 then some [(nx, ls, (5, 0, 0) :: st, env, ca)] else none
      | _ => none
    | 39 => match a with
      | [_] => some [(nx, ls, (5, 0, 0) :: st, env, ca)]
      | _ => none
    | 40 => match a, st with
      | lo :: df :: ts, x :: st => (match ab_bnd env x with
        | some b => some ((df.toNat, ls, st, env, ca) :: (ts.zipIdx.filterMap (fun e => if b.1 ≤ lo + (e.2 : Int) ∧ lo + (e.2 : Int) ≤ b.2 then some (e.1.toNat, ls, st, ab_set env x (lo + (e.2 : Int), lo + (e.2 : Int)), ca) else none)))
        | none => none)
      | _, _ => none
    | 41 => match st with
      | k :: dp :: b :: sp :: o :: st => if b.1 = 2 ∧ o.1 = 2 ∧ b.2.2.toNat ∈ mods ∧ 1 ≤ b.2.2.toNat ∧ 1 ≤ o.2.2.toNat ∧ ab_cat st ≤ 8 then
          (match ab_K[b.2.2.toNat]?, ab_K[o.2.2.toNat]?, ab_bnd env k, ab_bnd env dp, ab_bnd env sp with
          | some (c1, n1, [t1]), some (c2, n2, [t2]), some bk, some bd, some bs => if c1 == 20 && c2 == 20 && decide (0 ≤ bk.1) && decide (0 ≤ bd.1) && decide (0 ≤ bs.1) && decide (bs.2 + bk.2 ≤ (n2 : Int)) && decide (bd.2 + bk.2 ≤ (n1 : Int)) && t1.1 == 1 && t2.1 == 1 && decide (t1.2.1 ≤ t2.2.1) && decide (t2.2.2 ≤ t1.2.2) then some [(nx, ls, st, env, ca)] else none
          | _, _, _, _, _ => none) else none
      | _ => none
    | _ => none
