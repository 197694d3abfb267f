/-! CONTRACTS, and the checker's walk over a method -/
/-- a contract: method, depth, types of the arguments, type of the answer (sort 9: none), kinds that may be written, what fields of arguments hold before, what holds behind if the answer is neither 0 nor null (argument, slot or 9999 for the argument itself, bounds) -/
abbrev CT : Type := Nat × Nat × List TY × TY × List Nat × List (Nat × Nat × Int × Int) × List (Nat × Nat × Int × Int)
/-- a loop's head: types of locals and stack, and what falls: (0, _, B): B; (1, i, B): B less local i; (2, i, B): local i less B -/
abbrev HD : Type := List TY × List TY × List (Nat × Nat × Int)
/-- fresh values of given types -/
def ab_mk (env : List (Int × Int)) : List TY → List AV × List (Int × Int)
  | [] => ([], env)
  | t :: ts =>
    if t.1 = 1 then (match ab_mk (env ++ [(t.2.1, t.2.2)]) ts with | (l, e) => ((1, env.length, 0) :: l, e))
    else if t.1 = 2 then (match ab_mk (env ++ [(1, 0)]) ts with | (l, e) => ((2, env.length, t.2.1) :: l, e))
    else if t.1 = 4 then (match ab_mk (env ++ [(1, 0)]) ts with | (l, e) => ((4, env.length, t.2.1) :: l, e))
    else if t.1 = 5 then (match ab_mk env ts with | (l, e) => ((5, 0, 0) :: l, e))
    else (match ab_mk env ts with | (l, e) => ((0, 0, 0) :: l, e))
/-- the locals out of the arguments: a long takes two -/
def ab_loc : List AV → List AV
  | [] => []
  | a :: l => if a.1 = 5 then a :: (0, 0, 0) :: ab_loc l else a :: ab_loc l
def ab_io (k : Nat) : Bool := decide (1 ≤ k) && (match ab_K[k]? with
  | some (code, _, _) => decide (code < 20)
  | none => false)
def ab_pre (avs : List AV) (env : List (Int × Int)) : List (Nat × Nat × Int × Int) → List (Nat × Nat × Nat × AV) × List (Int × Int)
  | [] => ([], env)
  | p :: ps => match avs[p.1]? with
    | some a => if a.1 = 2 ∧ ab_io a.2.2.toNat = true then (match ab_pre avs (env ++ [(p.2.2.1, p.2.2.2)]) ps with | (l, e) => ((a.2.1, a.2.2.toNat, p.2.1, (1, env.length, 0)) :: l, e)) else ab_pre avs env ps
    | none => ab_pre avs env ps
def ab_entry (c : CT) (nL : Nat) : List AV × AS := match ab_mk [(0, 0)] c.2.2.1 with
  | (avs, env) => match ab_pre avs env c.2.2.2.2.2.1 with
    | (ca, env') => (avs, ab_loc avs ++ List.replicate (nL - (ab_loc avs).length) (0, 0, 0), [], env', ca)
def ab_head (hd : HD) : AS := match ab_mk [(0, 0)] hd.1 with
  | (ls, env) => match ab_mk env hd.2.1 with
    | (st, env') => (ls, st, env', [])
def ab_fitl (env : List (Int × Int)) : List AV → List TY → Bool
  | [], [] => true
  | a :: l, t :: ts => ab_fits env a t && ab_fitl env l ts
  | _, _ => false
/-- a measure's parts, by values -/
def ab_ms (ls : List AV) (m : List (Nat × Nat × Int)) : List (Nat × AV × Int) := m.map (fun e => (e.1, (ls[e.2.1]?).getD (0, 0, 0), e.2.2))
def ab_mb (env : List (Int × Int)) (e : Nat × AV × Int) : Option (Int × Int) := match e.1 with
  | 0 => some (e.2.2, e.2.2)
  | 1 => (match ab_bnd env e.2.1 with
    | some b => some (e.2.2 - b.2, e.2.2 - b.1)
    | none => none)
  | 2 => (match ab_bnd env e.2.1 with
    | some b => some (b.1 - e.2.2, b.2 - e.2.2)
    | none => none)
  | _ => none
/-- every part is a small natural number -/
def ab_mr (env : List (Int × Int)) (m : List (Nat × AV × Int)) : Bool := m.all fun e => match ab_mb env e with
  | some b => decide (0 ≤ b.1) && decide (b.2 < 8589934592)
  | none => false
/-- the first measure is below the second -/
def ab_lt (env : List (Int × Int)) : List (Nat × AV × Int) → List (Nat × AV × Int) → Bool
  | x :: xs, y :: ys =>
    if x.1 = y.1 ∧ x.2.2 = y.2.2 ∧ (x.1 = 0 ∨ (x.1 = 1 ∨ x.1 = 2) ∧ x.2.1.1 = 1 ∧ y.2.1.1 = 1 ∧ x.2.1.2.1 = y.2.1.2.1 ∧ x.2.1.2.2 = y.2.1.2.2) then ab_lt env xs ys
    else if x.1 = y.1 ∧ x.2.2 = y.2.2 ∧ x.1 = 1 ∧ x.2.1.1 = 1 ∧ y.2.1.1 = 1 ∧ x.2.1.2.1 = y.2.1.2.1 ∧ y.2.1.2.2 < x.2.1.2.2 then true
    else if x.1 = y.1 ∧ x.2.2 = y.2.2 ∧ x.1 = 2 ∧ x.2.1.1 = 1 ∧ y.2.1.1 = 1 ∧ x.2.1.2.1 = y.2.1.2.1 ∧ x.2.1.2.2 < y.2.1.2.2 then true
    else match ab_mb env x, ab_mb env y with
      | some bx, some by' => decide (bx.2 < by'.1)
      | _, _ => false
  | _, _ => false
def ab_find (ca : List (Nat × Nat × Nat × AV)) (i k : Nat) : Option AV := (ca.find? (fun e => e.1 == i && e.2.2.1 == k)).map (fun e => e.2.2.2)
/-- what a contract says of arguments and their fields holds -/
def ab_holds (avs : List AV) (env : List (Int × Int)) (ca : List (Nat × Nat × Nat × AV)) (p : Nat × Nat × Int × Int) : Bool := match avs[p.1]? with
  | some a => if p.2.1 = 9999 then (match ab_bnd env a with
      | some b => decide (p.2.2.1 ≤ b.1) && decide (b.2 ≤ p.2.2.2)
      | none => false)
    else if a.1 = 2 then (match ab_find ca a.2.1 p.2.1 with
      | some x => (match ab_bnd env x with
        | some b => decide (p.2.2.1 ≤ b.1) && decide (b.2 ≤ p.2.2.2)
        | none => false)
      | none => false) else false
  | none => false
/-- the end of a method -/
def ab_ret (c : CT) (avs : List AV) (q : Smi) (s : AS) : Bool := match q, s with
  | (op, a, _), (_, st, env, ca) => match op with
    | 21 => c.2.2.2.1.1 == 9 && c.2.2.2.2.2.2.isEmpty && st.isEmpty
    | 22 => match a, st with
      | [o], [x] => c.2.2.2.1.1 == 1 && ab_fits env x c.2.2.2.1 && (o == 0 || (decide (0 ≤ c.2.2.2.1.2.1) && decide (c.2.2.2.1.2.2 ≤ 1))) && (c.2.2.2.2.2.2.all (ab_holds avs env ca) || ab_bnd env x == some (0, 0))
      | _, _ => false
    | 23 => match st with
      | [x] => c.2.2.2.1.1 == 5 && x.1 == 5 && c.2.2.2.2.2.2.isEmpty
      | _ => false
    | 24 => match st with
      | [x] => (c.2.2.2.1.1 == 2 || c.2.2.2.1.1 == 4) && ab_fits env x c.2.2.2.1 && (c.2.2.2.2.2.2.all (ab_holds avs env ca) || x.1 == 3)
      | _ => false
    | _ => false
/-- what is known behind a call whose answer is neither 0 nor null (an empty list: there is no such answer) -/
def ab_post (avs : List AV) (env : List (Int × Int)) (ca : List (Nat × Nat × Nat × AV)) : List (Nat × Nat × Int × Int) → Option (List (List (Int × Int) × List (Nat × Nat × Nat × AV)))
  | [] => some [(env, ca)]
  | p :: ps => match avs[p.1]? with
    | some a => if p.2.1 = 9999 then (match ab_bnd env a with
        | some b => if ab_min b.2 p.2.2.2 < ab_max b.1 p.2.2.1 then some [] else ab_post avs (ab_set env a (ab_max b.1 p.2.2.1, ab_min b.2 p.2.2.2)) ca ps
        | none => none)
      else if a.1 = 2 ∧ 1 ≤ a.2.2.toNat then (match ab_K[a.2.2.toNat]? with
        | some (code, _, _) => if code < 20 then ab_post avs (env ++ [(p.2.2.1, p.2.2.2)]) ((a.2.1, a.2.2.toNat, p.2.1, (1, env.length, 0)) :: ca) ps else none
        | none => none) else none
    | none => none
/-- the receiver -/
def ab_recv (op m : Nat) (avs : List AV) : Bool := op == 19 || (match avs with
  | r :: _ => r.1 == 2 && (op == 20 || (decide (1 ≤ r.2.2.toNat) && (match ab_K[r.2.2.toNat]?, sm_ms[m]? with
    | some (code, _, _), some y => code == y.2.2.2.2
    | _, _ => false)))
  | [] => false)
def ab_callok (c cc : CT) (op m : Nat) (avs rest : List AV) (env : List (Int × Int)) (ca : List (Nat × Nat × Nat × AV)) : Bool :=
  (op == 18 || op == 19 || op == 20) && cc.1 == m && decide (cc.2.1 + 1 ≤ c.2.1) && ab_fitl env avs cc.2.2.1 && decide (ab_cat rest ≤ 8) && cc.2.2.2.2.1.all (fun x => decide (x ∈ c.2.2.2.2.1)) && cc.2.2.2.2.2.1.all (fun p => p.2.1 != 9999 && ab_holds avs env ca p) && ab_recv op m avs
/-- the states behind a call -/
def ab_after (cc : CT) (nx : Nat) (ls avs rest : List AV) (env : List (Int × Int)) (ca : List (Nat × Nat × Nat × AV)) : Option (List (Nat × AS)) :=
  if cc.2.2.2.1.1 = 9 then some [(nx, ls, rest, env, ca)]
  else if cc.2.2.2.2.2.2.isEmpty = true then (match ab_put env rest cc.2.2.2.1 with
    | some (st', env', _) => some [(nx, ls, st', env', ca)]
    | none => none)
  else if cc.2.2.2.1.1 = 1 then
    (match ab_post avs (env ++ [cc.2.2.2.1.2]) ca cc.2.2.2.2.2.2 with
      | some l => some ((nx, ls, (1, env.length, 0) :: rest, env ++ [(0, 0)], ca) :: l.map (fun e => (nx, ls, (1, env.length, 0) :: rest, e.1, e.2)))
      | none => none)
  else if cc.2.2.2.1.1 = 4 then
    (match ab_post avs (env ++ [(1, 0)]) ca cc.2.2.2.2.2.2 with
      | some l => some ((nx, ls, (3, 0, 0) :: rest, env, ca) :: l.map (fun e => (nx, ls, (2, env.length, cc.2.2.2.1.2.1) :: rest, e.1, e.2)))
      | none => none)
  else none
/-- a call, by the callee's contract -/
def ab_call (c cc : CT) (q : Smi) (s : AS) : Option (List (Nat × AS)) := match q, s with
  | (op, a, nx), (ls, st, env, ca) => match a with
    | [m, k] =>
      if k.toNat + (if op = 19 then 0 else 1) ≤ st.length then
        (if ab_callok c cc op m.toNat (st.take (k.toNat + (if op = 19 then 0 else 1))).reverse (st.drop (k.toNat + (if op = 19 then 0 else 1))) env ca = true then
          ab_after cc nx ls (st.take (k.toNat + (if op = 19 then 0 else 1))).reverse (st.drop (k.toNat + (if op = 19 then 0 else 1))) env (ca.filter (fun e => decide (e.2.1 ∉ cc.2.2.2.2.1)))
        else none)
      else none
    | _ => none
/-- the walk: from a place and a state, over all paths, to heads of loops and ends -/
def ab_go (cts : List CT) (c : CT) (hds : List (Nat × HD)) (cm : List (Nat × Nat)) (lim : Nat) (m0 : Option (List (Nat × AV × Int))) (avs : List AV) : Nat → Bool → Nat → AS → Bool
  | 0, _, _, _ => false
  | f + 1, first, pc, s => match (if first then none else hds.lookup pc) with
    | some hd => ab_fitl s.2.2.1 s.1 hd.1 && ab_fitl s.2.2.1 s.2.1 hd.2.1 && (match m0 with
      | none => true
      | some m => ab_lt s.2.2.1 (ab_ms s.1 hd.2.2) m && decide (hd.2.2.length = m.length))
    | none => match fl_code c.1 pc with
      | none => false
      | some q => if 21 ≤ q.1 ∧ q.1 ≤ 24 then (if m0.isNone || c.2.2.2.2.2.2.isEmpty then ab_ret c avs q s else false)
        else if 18 ≤ q.1 ∧ q.1 ≤ 20 then (match cm.lookup pc with
          | some j => if j < lim then (match cts[j]? with
            | some cc => (match ab_call c cc q s with
              | some l => l.all (fun e => ab_go cts c hds cm lim m0 avs f false e.1 e.2)
              | none => false)
            | none => false) else false
          | none => false)
        else (match ab_step c.2.2.2.2.1 q s with
          | some l => l.all (fun e => ab_go cts c hds cm lim m0 avs f false e.1 e.2)
          | none => false)
/-- the whole check of contract number i: its entry, and each head of a loop -/
def ab_chk (cts : List CT) (i : Nat) (hds : List (Nat × HD)) (cm : List (Nat × Nat)) (fuel : Nat) : Bool := match cts[i]? with
  | none => false
  | some c => match sm_ms[c.1]? with
    | none => false
    | some y => decide ((ab_loc (ab_entry c y.2.2.1).1).length ≤ y.2.2.1) && ab_go cts c hds cm i none (ab_entry c y.2.2.1).1 fuel false 0 (ab_entry c y.2.2.1).2 &&
      hds.all (fun e => (e.2.1.length == y.2.2.1) && ab_mr (ab_head e.2).2.2.1 (ab_ms (ab_head e.2).1 e.2.2.2) && ab_go cts c hds cm i (some (ab_ms (ab_head e.2).1 e.2.2.2)) [] fuel true e.1 (ab_head e.2))
