/-! THE WORDS: each link of the flat code stands among the tables' words, and is a word that stays -/
def sm_arrName : MethodName := ⟨"java/lang/System", "arraycopy", "(Ljava/lang/Object;ILjava/lang/Object;II)V"⟩
def sw_is (p : Nat) (w : Cond) : Bool := decide (lw_tbl[p]? = some w)
def sw_good (p : Nat) (w : Cond) : Bool := sw_is p w && goodWord w
theorem sw_in {p : Nat} {w : Cond} (h : sw_is p w = true) : w ∈ lw_tbl := List.mem_of_getElem? (of_decide_eq_true h)
theorem sw_tbl {p : Nat} {w : Cond} (h : sw_good p w = true) : w ∈ sm_tbl := by
  rw [sw_good, Bool.and_eq_true] at h
  exact List.mem_filter.mpr ⟨sw_in h.1, h.2⟩
theorem sw_goodIn : GoodIn sm_tbl sm_tbl := fun w h => ⟨h, good_of_word (List.mem_filter.mp h).2⟩
/-- the words that aren't of that kind: links to private members of a nest mate -/
def sw_nest : List Cond := lw_tbl.filter fun w => match w with
  | .fieldLinkNest _ _ _ _ _ _ => true
  | .methodLinkNest _ _ _ _ => true
  | _ => false
theorem sw_nestF {p : Nat} {a : String} {i : Nat} {b n d h : String} (q : sw_is p (.fieldLinkNest a i b n d h) = true) : Cond.fieldLinkNest a i b n d h ∈ sw_nest := List.mem_filter.mpr ⟨sw_in q, rfl⟩
theorem sw_nestM {p : Nat} {a : String} {i : Nat} {b : MethodName} {h : String} (q : sw_is p (.methodLinkNest a i b h) = true) : Cond.methodLinkNest a i b h ∈ sw_nest := List.mem_filter.mpr ⟨sw_in q, rfl⟩
/-- methods: instance (1), static (2) by place -/
def sw_m (e : sm_M × Nat × Nat × Nat × Nat × Nat) : Bool := match e with
  | ((y, _, _, _, o), _, q2, q3, q4, q5) => decide (sm_own[o]? = some y.cls) && sw_good q5 (.initialized y.cls) &&
    (if q3 = 99999 then sw_good q2 (.instanceMethod y) && (decide (q4 = 99999) || sw_good q4 (.selects y.cls y y)) else sw_good q3 (.static y)) &&
    decide (y.cls ≠ "java/lang/invoke/MethodHandle" ∧ y.cls ≠ "java/lang/invoke/VarHandle") && plainName y.cls
theorem sw_mall : (sm_ms.zip sm_pos).all sw_m = true := by decide +kernel
set_option maxRecDepth 1000000 in
theorem sw_ccode : (sm_ms.zip sm_pos).map (fun e => Cond.code e.1.1 e.1.2.1 e.1.2.2.1 e.1.2.2.2.1) = (sm_ms.zip sm_pos).filterMap (fun e => lw_tbl[e.2.1]?) := by rfl
/-- fields -/
def sw_all {α : Type} (l : List (List (Nat × α))) (f : String → Nat → α → Bool) : Bool := (sm_own.zip l).all (fun q => q.2.all (fun e => f q.1 e.1 e.2))
def sw_f (o : String) (i : Nat) (e : Nat × Nat × Nat) : Bool := match vwCl[e.1]? with
  | some (_, T, N) => decide (e.2.1 < N) && sw_good e.2.2 (.fieldLink o i (T e.2.1).1 (T e.2.1).2.1 (T e.2.1).2.2.1)
  | _ => false
theorem sw_fall : sw_all sm_rf sw_f = true := by decide +kernel
def sw_r (o : String) (i : Nat) (e : Nat × Nat × Nat) : Bool := if e.1 = 9999 then sw_good e.2.1 (.methodLink o i objectInit) else if e.1 = 9998 then sw_good e.2.1 (.methodLink o i sm_arrName) else
    (match sm_ms[e.1]? with
    | some y => decide (e.1 < 214) && (if e.2.2 = 0 then sw_good e.2.1 (.methodLink o i y.1) else sw_is e.2.1 (.methodLinkNest o i y.1 "CardIndex"))
    | none => false)
theorem sw_rall : sw_all sm_rm sw_r = true := by decide +kernel
def sw_c (o : String) (i : Nat) (e : Nat × Nat) : Bool := match vwCl[e.1]? with
  | some (C, _, _) => sw_good e.2 (.classLink o i C)
  | _ => false
theorem sw_call : sw_all sm_rc sw_c = true := by decide +kernel
def sw_k (o : String) (i : Nat) (e : Int × Nat) : Bool := sw_good e.2 (.constant o i (Int32.ofInt e.1))
theorem sw_kall : sw_all sm_rk sw_k = true := by decide +kernel
def sw_l (o : String) (i : Nat) (e : Int × Nat) : Bool := sw_good e.2 (.constantLong o i (Int64.ofInt e.1))
theorem sw_lall : sw_all sm_rl sw_l = true := by decide +kernel
def sw_s (o : String) (i : Nat) (e : Nat × Nat × Nat) : Bool := match sm_sn[e.1]? with
  | some n => if e.2.2 = 0 then sw_good e.2.1 (.fieldLink o i "CardIndex" n "[I") else sw_is e.2.1 (.fieldLinkNest o i "CardIndex" n "[I" "CardIndex")
  | _ => false
theorem sw_sall : sw_all sm_rs sw_s = true := by decide +kernel
theorem sw_of {α : Type} {l : List (List (Nat × α))} {f : String → Nat → α → Bool} (h : sw_all l f = true) {own k : Nat} {o : String} {v : α} (ho : sm_own[own]? = some o) (hv : sm_at l own k = some v) : f o k v = true := by
  unfold sm_at at hv
  cases hl : l[own]? with
  | none => rw [hl] at hv; cases hv
  | some t =>
    rw [hl] at hv
    have h1 : (o, t) ∈ sm_own.zip l := List.mem_of_getElem? (i := own) (by rw [List.getElem?_zip_eq_some]; exact ⟨ho, hl⟩)
    have h2 := List.all_eq_true.mp h _ h1
    simp only at hv
    have hm : (k, v) ∈ t := by
      clear h1 h2 hl
      induction t with
      | nil => cases hv
      | cons a t ih =>
        obtain ⟨a1, a2⟩ := a
        rw [List.lookup_cons] at hv
        by_cases e : k = a1
        · subst e
          rw [beq_self_eq_true] at hv
          cases hv
          exact List.mem_cons_self
        · rw [beq_false_of_ne e] at hv
          exact List.mem_cons_of_mem _ (ih hv)
    exact List.all_eq_true.mp h2 _ hm
/-- classes: their layout's words, their objects can be made -/
def sw_cl (e : vw_C) : Bool := (u_ws e.1 e.2.1 e.2.2).all (fun w => decide (w ∈ lw_tbl) && goodWord w) && decide (Cond.instantiable e.1 e.2.2 ∈ lw_tbl) && decide (Cond.initialized e.1 ∈ lw_tbl)
theorem sw_clall : vwCl.all sw_cl = true := by decide +kernel
theorem sw_arr : Cond.arrayClass .int ∈ sm_tbl ∧ Cond.arrayClass .boolean ∈ sm_tbl := ⟨sw_tbl (p := 142) (by decide +kernel), sw_tbl (p := 1359) (by decide +kernel)⟩
theorem sw_obj : Cond.instanceMethod objectInit ∈ sm_tbl ∧ Cond.code objectInit ⟨#[0xb1]⟩ 1 none ∈ sm_tbl := ⟨sw_tbl (p := 96) (by decide +kernel), sw_tbl (p := 97) (by decide +kernel)⟩
theorem sw_cpy : Cond.native sm_arrName ∈ sm_tbl ∧ Cond.static sm_arrName ∈ sm_tbl ∧ Cond.initialized "java/lang/System" ∈ sm_tbl := ⟨sw_tbl (p := 631) (by decide +kernel), sw_tbl (p := 630) (by decide +kernel), sw_tbl (p := 88) (by decide +kernel)⟩
