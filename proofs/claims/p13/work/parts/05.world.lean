/-! THE WORLD: the flat heap as the machine's cells, from the address E.1 on; static arrays at E.2.1 -/
abbrev wd_E : Type := Nat × (Nat → Nat) × va_G
def wd_ad (E : wd_E) (k : Nat) : Nat := if k < 1000 then E.1 + k else E.2.1 (k - 1000)
def wd_v (E : wd_E) : Value → Value
  | .ref k => .ref (wd_ad E k)
  | v => v
def wd_aty (k : Nat) : Option FieldType := if k = 20 then some .int else if k = 21 then some .boolean else if 30 ≤ k ∧ k < 41 then (vwCl[k - 30]?).map (fun q => .object q.1) else none
def wd_f (h : Hp) (ci r j : Nat) : Value := if fl_kind ci j = 2 then fl_rv (h.2 r j) else .int (h.1 r j)
def wd_c (E : wd_E) (cA : Nat → ClassId) (h : Hp) (k : Nat) : va_E :=
  if (fl_lay k).1 < 20 then .inr ((fl_lay k).1, (List.range (fl_lay k).2).map (fun j => wd_v E (wd_f h (fl_lay k).1 k j)))
  else if (fl_lay k).1 < 30 then .inl (cA k, (fl_lay k).2, .inl (h.1 k))
  else .inl (cA k, (fl_lay k).2, .inr (.inr (.inr (.inr (fun j => (h.2 k j).map (wd_ad E))))))
def wd_ws (E : wd_E) (cA : Nat → ClassId) (h : Hp) (n : Nat) : va_W := (List.range n).map (fun k => (E.1 + k, wd_c E cA h k))
def wd_tys (cA : Nat → ClassId) (n : Nat) : List (ClassId × FieldType) := (List.range n).filterMap (fun k => (wd_aty (fl_lay k).1).map (fun t => (cA k, t)))
/-- slots of the first n cells -/
def wd_sz : Nat → Nat
  | 0 => 0
  | n + 1 => wd_sz n + (fl_lay n).2
theorem wd_at {E : wd_E} {cA : Nat → ClassId} {h : Hp} {n k : Nat} (hk : k < n) : (wd_ws E cA h n)[k]? = some (E.1 + k, wd_c E cA h k) := by
  simp [wd_ws, hk]
theorem wd_at' {E : wd_E} {cA : Nat → ClassId} {h : Hp} {n k : Nat} {q : Nat × va_E} (hk : (wd_ws E cA h n)[k]? = some q) : k < n ∧ q = (E.1 + k, wd_c E cA h k) := by
  have hl : k < n := by
    have := (List.getElem?_eq_some_iff.mp hk).1
    simpa [wd_ws] using this
  exact ⟨hl, by rw [wd_at hl] at hk; exact (Option.some.inj hk).symm⟩
theorem wd_ty {cA : Nat → ClassId} {n k : Nat} {t : FieldType} (hk : k < n) (ht : wd_aty (fl_lay k).1 = some t) : ∃ t0 : Nat, (wd_tys cA n)[t0]? = some (cA k, t) :=
  List.getElem?_of_mem (List.mem_filterMap.mpr ⟨k, List.mem_range.mpr hk, by rw [ht]; rfl⟩)
theorem wd_D (E : wd_E) (cA : Nat → ClassId) (h : Hp) (n : Nat) : va_D (fun q => E.1 ≤ q) (wd_ws E cA h n) := by
  refine ⟨fun i j p q hi hj e => ?_, fun k q hk => ?_⟩
  · have h1 := (wd_at' hi).2
    have h2 := (wd_at' hj).2
    subst h1; subst h2
    simpa using e
  · have h1 := (wd_at' hk).2
    subst h1
    exact Nat.le_add_right _ _
theorem wd_c_congr {E : wd_E} {cA cA' : Nat → ClassId} {h h' : Hp} {k : Nat} (e1 : h'.1 k = h.1 k) (e2 : h'.2 k = h.2 k) (e3 : cA' k = cA k) : wd_c E cA' h' k = wd_c E cA h k := by
  unfold wd_c wd_f
  rw [e1, e2, e3]
theorem wd_set {E : wd_E} {cA : Nat → ClassId} {h h' : Hp} {n k : Nat} {e : va_E} (hk : k < n) (h1 : ∀ j, j ≠ k → h'.1 j = h.1 j ∧ h'.2 j = h.2 j) (h2 : wd_c E cA h' k = e) : (wd_ws E cA h n).set k (E.1 + k, e) = wd_ws E cA h' n := by
  apply List.ext_getElem?
  intro j
  have hlen : (wd_ws E cA h n).length = n := by simp [wd_ws]
  by_cases hj : j = k
  · subst hj
    rw [List.getElem?_set_self (by rw [hlen]; exact hk), wd_at hk, h2]
  · rw [List.getElem?_set_ne (Ne.symm hj)]
    by_cases hn : j < n
    · rw [wd_at hn, wd_at hn, wd_c_congr (h1 j hj).1 (h1 j hj).2 rfl]
    · rw [List.getElem?_eq_none (by rw [hlen]; omega), List.getElem?_eq_none (by simp [wd_ws]; omega)]
theorem wd_push {E : wd_E} {cA cA' : Nat → ClassId} {h : Hp} {n : Nat} {e : va_E} (h1 : ∀ j, j ≠ n → cA' j = cA j) (h2 : wd_c E cA' (fl_zero h n) n = e) : wd_ws E cA h n ++ [(E.1 + n, e)] = wd_ws E cA' (fl_zero h n) (n + 1) := by
  unfold wd_ws
  rw [List.range_succ, List.map_append]
  congr 1
  · apply List.map_congr_left
    intro k hk
    have hkn : k ≠ n := Nat.ne_of_lt (List.mem_range.mp hk)
    rw [wd_c_congr (h := h) (h' := fl_zero h n) (cA := cA) (cA' := cA') (by funext b; simp [fl_zero, hkn]) (by funext b; simp [fl_zero, hkn]) (h1 k hkn)]
  · simp [h2]
theorem fm_congr {α β : Type} {f g : α → Option β} {l : List α} (h : ∀ a ∈ l, f a = g a) : l.filterMap f = l.filterMap g := by
  induction l with
  | nil => rfl
  | cons a t ih =>
    rw [List.filterMap_cons, List.filterMap_cons, h a List.mem_cons_self, ih (fun b hb => h b (List.mem_cons_of_mem _ hb))]
theorem wd_tys_eq {cA cA' : Nat → ClassId} {n : Nat} (h1 : ∀ j, j ≠ n → cA' j = cA j) : wd_tys cA' n = wd_tys cA n := by
  unfold wd_tys
  apply fm_congr
  intro k hk
  rw [h1 k (Nat.ne_of_lt (List.mem_range.mp hk))]
theorem wd_tys_succ {cA cA' : Nat → ClassId} {n : Nat} (h1 : ∀ j, j ≠ n → cA' j = cA j) : wd_tys cA' (n + 1) = wd_tys cA n ++ ((wd_aty (fl_lay n).1).map (fun t => (cA' n, t))).toList := by
  rw [← wd_tys_eq h1]
  unfold wd_tys
  rw [List.range_succ, List.filterMap_append]
  congr 1
/-- what the launch gives, and no call changes: the static arrays and the script, the statics that hold them, the words of private members, of arrays of objects -/
def wd_len (g : Nat → Nat → Int32) (j : Nat) : Nat := if j = 10 then (g 11 0).toNatClampNeg else ((fl_st[j]?).getD []).length
def wd_T (E : wd_E) (g : Nat → Nat → Int32) (U : State) (H : Heap) : Prop :=
  (∀ j, j ≤ 10 → va_T .int (E.2.1 j) (wd_len g j) (fun i => .int (g j i)) (fun q => E.1 ≤ q) U H) ∧
  (∀ (j : Nat) (n : String), sm_sn[j]? = some n → va_Z "CardIndex" n "[I" (.ref (E.2.1 j)) (fun q => E.1 ≤ q) U H) ∧
  (∀ w ∈ sw_nest, va_Nw w U) ∧ (∀ q ∈ vwCl, q.1 = RX0 ∨ q.1 = RX3 ∨ q.1 = RX7 ∨ q.1 = RX8 → va_AO q.1 U)
theorem wd_T.warm {E : wd_E} {g : Nat → Nat → Int32} {s U : State} {H : Heap} (hW : s.WarmedH U.vm) (h : wd_T E g s H) : wd_T E g U H := by
  refine ⟨fun j hj => (h.1 j hj).moved hW.alike, fun j n hn => (h.2.1 j n hn).moved hW.alike, fun w hw => ?_, fun q hq z => (h.2.2.2 q hq z).moved hW.alike⟩
  have h1 := h.2.2.1 w hw
  have h2 := (List.mem_filter.mp hw).2
  cases w <;> first | exact va_Nw.warmF hW h1 | exact va_Nw.warmM hW h1 | (exact absurd h2 (by simp))
theorem wd_T.same {E : wd_E} {g : Nat → Nat → Int32} {s U : State} {H : Heap} (hW : s.vm = U.vm) (h : wd_T E g s H) : wd_T E g U H := by
  have hA : s.vm.Alike U.vm := by rw [hW]; exact Vm.Alike.refl _
  refine ⟨fun j hj => (h.1 j hj).moved hA, fun j n hn => (h.2.1 j n hn).moved hA, fun w hw => ?_, fun q hq z => (h.2.2.2 q hq z).moved hA⟩
  have h1 := h.2.2.1 w hw
  have h2 := (List.mem_filter.mp hw).2
  cases w <;> first | exact va_Nw.same rfl hW h1 | (exact absurd h2 (by simp))
theorem wd_T.kept {E : wd_E} {g : Nat → Nat → Int32} {U : State} {H H1 : Heap} (h : wd_T E g U H) (hq : ∀ a : Nat, a < H.size → ¬ E.1 ≤ a → H1[a]? = H[a]?) : wd_T E g U H1 :=
  ⟨fun j hj => (h.1 j hj).kept hq, fun j n hn => (h.2.1 j n hn).kept hq, h.2.2.1, h.2.2.2⟩
/-- the world, n cells of it made -/
def Wd (E : wd_E) (g : Nat → Nat → Int32) (cA : Nat → ClassId) (n : Nat) (h : Hp) (U : State) (H : Heap) : Prop :=
  n ≤ fl_tot ∧ va_P E.2.2 vwCl (wd_ws E cA h n) H ∧ va_K E.2.2 vwCl (wd_tys cA n) U ∧ (n < fl_tot → H.size = E.1 + n) ∧ ∀ j i, h.1 (1000 + j) i = g j i
theorem Wd.moved {E : wd_E} {g : Nat → Nat → Int32} {cA : Nat → ClassId} {n : Nat} {h : Hp} {s U : State} {H : Heap} (hA : s.vm.Alike U.vm) (w : Wd E g cA n h s H) : Wd E g cA n h U H := ⟨w.1, w.2.1, va_K.moved hA w.2.2.1, w.2.2.2⟩
theorem wd_len_eq {g : Nat → Nat → Int32} {h : Hp} (hg : ∀ j i, h.1 (1000 + j) i = g j i) {k : Nat} (hk : 1000 ≤ k) : fl_len h k = wd_len g (k - 1000) := by
  unfold fl_len wd_len
  have e : h.1 1011 0 = g 11 0 := hg 11 0
  by_cases h1 : k = 1010
  · subst h1
    simp [e]
  · rw [if_neg (by omega), if_neg h1, if_neg (by omega)]
/-- a method's locals: the flat ones, told of the machine's -/
def Lv (E : wd_E) (lsA : Array Slot) (nL : Nat) (ls : List (Option Value)) : Prop := lsA.size = nL ∧ lv_wf lsA ∧ ls.length = nL ∧ ∀ (i : Nat) (v : Value), ls[i]? = some (some v) → lsA[i]? = some (.val (wd_v E v))
def lv_al (E : wd_E) (ls : List (Option Value)) : List (Nat × Value) := (List.range ls.length).filterMap (fun i => ((ls[i]?).getD none).map (fun v => (i, wd_v E v)))
theorem lv_al_mem {E : wd_E} {ls : List (Option Value)} {q : Nat × Value} : q ∈ lv_al E ls ↔ ∃ v, ls[q.1]? = some (some v) ∧ q.2 = wd_v E v := by
  unfold lv_al
  rw [List.mem_filterMap]
  constructor
  · rintro ⟨i, -, hi⟩
    cases hv : (ls[i]?).getD none with
    | none => rw [hv] at hi; cases hi
    | some v =>
      rw [hv] at hi
      cases hi
      refine ⟨v, ?_, rfl⟩
      cases hl : ls[i]? with
      | none => rw [hl] at hv; cases hv
      | some o => rw [hl] at hv; exact congrArg some hv
  · rintro ⟨v, h1, h2⟩
    refine ⟨q.1, List.mem_range.mpr (List.getElem?_eq_some_iff.mp h1).1, ?_⟩
    rw [h1]
    simp [← h2]
theorem Lv.has {E : wd_E} {lsA : Array Slot} {nL : Nat} {ls : List (Option Value)} (h : Lv E lsA nL ls) : lv_has lsA nL (lv_al E ls) := by
  refine ⟨h.1, h.2.1, fun q hq => ?_⟩
  obtain ⟨v, h1, h2⟩ := lv_al_mem.mp hq
  rw [h2]
  exact h.2.2.2 _ _ h1
theorem wd_v_cat (E : wd_E) (v : Value) : (wd_v E v).category = v.category := by cases v <;> rfl
theorem wd_cat (E : wd_E) (vs : List Value) : ((vs.map (wd_v E)).map fun v => v.category).sum = fl_cat vs := by
  unfold fl_cat
  rw [List.map_map]
  congr 1
  apply List.map_congr_left
  intro v _
  exact wd_v_cat E v
