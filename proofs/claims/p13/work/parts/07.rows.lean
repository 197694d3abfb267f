/-! A STEP OF THE FLAT MACHINE IS A STEP OF THE MACHINE: rows for cells -/
theorem lk_mem {α : Type} {l : List (Nat × α)} {k : Nat} {v : α} (h : l.lookup k = some v) : (k, v) ∈ l := by
  induction l with
  | nil => cases h
  | cons a t ih =>
    obtain ⟨a1, a2⟩ := a
    rw [List.lookup_cons] at h
    by_cases e : k = a1
    · subst e
      rw [beq_self_eq_true] at h
      cases h
      exact List.mem_cons_self
    · rw [beq_false_of_ne e] at h
      exact List.mem_cons_of_mem _ (ih h)
theorem cd_mem {mi pc : Nat} {q : Smi} (hc : fl_code mi pc = some q) : ∃ l, sm_cs[mi]? = some l ∧ (pc, q) ∈ l := by
  unfold fl_code at hc
  cases hl : sm_cs[mi]? with
  | none => rw [hl] at hc; cases hc
  | some l =>
    rw [hl] at hc
    exact ⟨l, rfl, lk_mem hc⟩
theorem cd_dec {mi pc : Nat} {q : Smi} {y : sm_M} (hy : sm_ms[mi]? = some y) (hc : fl_code mi pc = some q) : ∃ (i : Instr) (len : Nat), decode y.2.1 pc = .ok (i, len) ∧ sm_low y.2.2.2.2 y.2.2.2.1 pc i len = some q := by
  have hm : mi < 215 := by
    have h1 := (List.getElem?_eq_some_iff.mp hy).1
    rw [sm_len.2] at h1
    exact h1
  have h1 := sm_all mi hm
  unfold sm_chks at h1
  obtain ⟨l, hl, hm⟩ := cd_mem hc
  rw [hl, hy] at h1
  have h2 := List.all_eq_true.mp h1 _ hm
  unfold sm_chk at h2
  cases hd : decode y.2.1 pc with
  | error e => simp only [hd] at h2; cases h2
  | ok r =>
    obtain ⟨i, len⟩ := r
    simp only [hd] at h2
    exact ⟨i, len, rfl, eq_of_beq h2⟩
theorem sm_ownall : sm_ms.all (fun y => decide (sm_own[y.2.2.2.2]? = some y.1.cls)) = true := by decide +kernel
theorem sm_ownof {mi : Nat} {y : sm_M} (hy : sm_ms[mi]? = some y) : sm_own[y.2.2.2.2]? = some y.1.cls := of_decide_eq_true (List.all_eq_true.mp sm_ownall y (List.mem_of_getElem? hy))
/-- final fields are written in constructors alone; each call is of the callee's kind -/
def sm_static (y : sm_M) (e : Nat × Smi) : Bool := match e.2 with
  | (10, [ci, k], _) => (match vwCl[ci.toNat]? with
    | some (_, T, _) => if (T k.toNat).2.2.2 then y.1.name == "<init>" && (T k.toNat).1 == y.1.cls else true
    | none => false)
  | (18, [m, _], _) => (match sm_pos[m.toNat]? with
    | some (_, _, q3, q4, _) => q3 == 99999 && q4 != 99999
    | none => false)
  | (19, [m, _], _) => (match sm_pos[m.toNat]? with
    | some (_, _, q3, _, _) => q3 != 99999
    | none => false)
  | (20, [m, _], _) => (match sm_pos[m.toNat]?, sm_ms[m.toNat]? with
    | some (_, _, q3, _, _), some y2 => q3 == 99999 && y2.1.name == "<init>" && y2.2.2.2.1 == none
    | _, _ => false)
  | (21, _, _) => y.2.2.2.1 == none
  | (23, _, _) => y.2.2.2.1 == some .long
  | (24, _, _) => (match y.2.2.2.1 with
    | some (.object _) => true
    | some (.array _) => true
    | _ => false)
  | _ => true
theorem sm_stall : (sm_ms.zip sm_cs).all (fun q => q.2.all (sm_static q.1)) = true := by decide +kernel
theorem cd_static {mi pc : Nat} {q : Smi} {y : sm_M} (hy : sm_ms[mi]? = some y) (hc : fl_code mi pc = some q) : sm_static y (pc, q) = true := by
  obtain ⟨l, hl, hm⟩ := cd_mem hc
  have h1 : (y, l) ∈ sm_ms.zip sm_cs := List.mem_of_getElem? (i := mi) (by rw [List.getElem?_zip_eq_some]; exact ⟨hy, hl⟩)
  exact List.all_eq_true.mp (List.all_eq_true.mp sm_stall _ h1) _ hm
/-- a class, by its number -/
theorem cl_of {ci : Nat} {C : String} {T : u_T} {N : Nat} (h : vwCl[ci]? = some (C, T, N)) : ∃ ty : Nat → FieldType, fl_ty[ci]? = some ty ∧ fl_N[ci]? = some N ∧ (∀ k, k < N → parseFieldDescriptor (T k).2.2.1 = some (ty k)) ∧ (∀ a, a < N → ∀ b, b < N → a ≠ b → (T a).2.1 ≠ (T b).2.1) := by
  match ci, h with
  | 0, h => cases h; exact ⟨tyX0, rfl, rfl, tyX0_ok, nmX0⟩
  | 1, h => cases h; exact ⟨tyX1, rfl, rfl, tyX1_ok, nmX1⟩
  | 2, h => cases h; exact ⟨tyX2, rfl, rfl, tyX2_ok, nmX2⟩
  | 3, h => cases h; exact ⟨tyX3, rfl, rfl, tyX3_ok, nmX3⟩
  | 4, h => cases h; exact ⟨tyX4, rfl, rfl, tyX4_ok, nmX4⟩
  | 5, h => cases h; exact ⟨tyX5, rfl, rfl, tyX5_ok, nmX5⟩
  | 6, h => cases h; exact ⟨tyX6, rfl, rfl, tyX6_ok, nmX6⟩
  | 7, h => cases h; exact ⟨tyX7, rfl, rfl, tyX7_ok, nmX7⟩
  | 8, h => cases h; exact ⟨tyX8, rfl, rfl, tyX8_ok, nmX8⟩
  | 9, h => cases h; exact ⟨tyX9, rfl, rfl, tyX9_ok, nmX9⟩
  | 10, h => cases h; exact ⟨tyX10, rfl, rfl, tyX10_ok, nmX10⟩
  | k + 11, h => simp at h
theorem cl_lt {ci : Nat} {q : vw_C} (h : vwCl[ci]? = some q) : ci < 11 := by
  have := (List.getElem?_eq_some_iff.mp h).1
  simpa using this
theorem cl_words {ci : Nat} {C : String} {T : u_T} {N : Nat} (h : vwCl[ci]? = some (C, T, N)) : (∀ w ∈ u_ws C T N, w ∈ sm_tbl) ∧ Cond.instantiable C N ∈ sm_tbl ∧ Cond.initialized C ∈ sm_tbl := by
  have h1 := List.all_eq_true.mp sw_clall _ (List.mem_of_getElem? h)
  simp only [sw_cl, Bool.and_eq_true, decide_eq_true_eq] at h1
  obtain ⟨⟨h2, h3⟩, h4⟩ := h1
  refine ⟨fun w hw => ?_, List.mem_filter.mpr ⟨h3, rfl⟩, List.mem_filter.mpr ⟨h4, rfl⟩⟩
  have h5 := List.all_eq_true.mp h2 w hw
  simp only [Bool.and_eq_true, decide_eq_true_eq] at h5
  exact List.mem_filter.mpr h5
theorem wd_adlt {E : wd_E} {k n : Nat} (hn : n ≤ fl_tot) (hk : k < n) : wd_ad E k = E.1 + k := if_pos (Nat.lt_of_lt_of_le hk (Nat.le_trans hn (by decide)))
/-- the state within a method's body -/
def Sb (E : wd_E) (g : Nat → Nat → Int32) (cA : Nat → ClassId) (n : Nat) (h : Hp) (s : State) (H : Heap) (locs : List Loc) : Prop := Wd E g cA n h s H ∧ va_S (fun q => E.1 ≤ q) s.heap H locs
theorem Sb.upd {E : wd_E} {g : Nat → Nat → Int32} {cA : Nat → ClassId} {n : Nat} {h h' : Hp} {s : State} {H H1 : Heap} {locs : List Loc} (S : Sb E g cA n h s H locs) {r : Nat} (hr : r < n) (h1 : ∀ j, j ≠ r → h'.1 j = h.1 j ∧ h'.2 j = h.2 j) {e : va_E} (he : wd_c E cA h' r = e) (ha : va_at E.2.2 vwCl (E.1 + r, e) H1) (z : H1.size = H.size) (oq : ∀ q : Nat, q ≠ E.1 + r → H1[q]? = H[q]?) (k : Nat) : Sb E g cA n h' s H1 (locs ++ [⟨E.1 + r, k⟩]) := by
  obtain ⟨⟨a1, a2, a3, a4, a5⟩, hS⟩ := S
  refine ⟨⟨a1, ?_, a3, fun q => by rw [z]; exact a4 q, fun j i => ?_⟩, hS.put z oq (Nat.le_add_right _ _)⟩
  · have h2 := a2.set (wd_D E cA h n) (wd_at hr) ha oq
    rw [wd_set hr h1 he] at h2
    exact h2
  · rw [(h1 (1000 + j) (by have : fl_tot = 285 := rfl; omega)).1]
    exact a5 j i
def Ctx (E : wd_E) (g : Nat → Nat → Int32) (p : Program) (s : State) (m : MethodId) (args : Array Value) (meth : Method) (c : Code) (y : sm_M) : Prop :=
  p.tables.exec = Jvm.exec ∧ c.code = y.2.1 ∧ c.maxLocals = y.2.2.1 ∧ meth.sig.returnType = y.2.2.2.1 ∧ s.vm.findClass y.1.cls = some m.cls ∧ (∀ w ∈ sm_tbl, w.before args s = true) ∧ wd_T E g s s.heap ∧ meth.locks = false ∧ E.1 ≤ s.heap.size ∧ (y.1.name = "<init>" → meth.name = "<init>")
theorem fl_in_of {i : Int32} {n : Nat} (h : fl_in i n = true) : vp_in i n := by
  simp only [fl_in, Bool.and_eq_true, decide_eq_true_eq] at h
  intro q
  rcases q with q | q
  · exact h.1 q
  · omega
theorem fs_set {N k : Nat} {f f' : Nat → Value} (h1 : ∀ j, j ≠ k → f' j = f j) : (List.range N).map f' = ((List.range N).map f).set k (f' k) := by
  apply List.ext_getElem?
  intro j
  by_cases hj : j = k
  · subst hj
    by_cases hN : j < N
    · rw [List.getElem?_set_self (by simpa using hN)]
      simp [hN]
    · rw [List.getElem?_eq_none (by simp; omega), List.getElem?_eq_none (by simp; omega)]
  · rw [List.getElem?_set_ne (Ne.symm hj), List.getElem?_map, List.getElem?_map]
    by_cases hN : j < N
    · simp [hN, h1 j hj]
    · rw [List.getElem?_eq_none (by simp; omega)]
      rfl
theorem wd_c_obj {E : wd_E} {cA : Nat → ClassId} {h : Hp} {r ci N : Nat} (hl : fl_lay r = (ci, N)) (hc : ci < 20) : wd_c E cA h r = .inr (ci, (List.range N).map (fun j => wd_v E (wd_f h ci r j))) := by
  unfold wd_c
  rw [hl]
  simp [hc]
theorem wd_c_int {E : wd_E} {cA : Nat → ClassId} {h : Hp} {r : Nat} (h1 : 20 ≤ (fl_lay r).1) (h2 : (fl_lay r).1 < 30) : wd_c E cA h r = .inl (cA r, (fl_lay r).2, .inl (h.1 r)) := by
  unfold wd_c
  rw [if_neg (by omega), if_pos h2]
theorem wd_c_ref {E : wd_E} {cA : Nat → ClassId} {h : Hp} {r : Nat} (h1 : 30 ≤ (fl_lay r).1) : wd_c E cA h r = .inl (cA r, (fl_lay r).2, .inr (.inr (.inr (.inr (fun j => (h.2 r j).map (wd_ad E)))))) := by
  unfold wd_c
  rw [if_neg (by omega), if_neg (by omega)]
theorem wd_rv (E : wd_E) (o : Option Nat) : wd_v E (fl_rv o) = va_rf (o.map (wd_ad E)) := by cases o <;> rfl
theorem put_ok {E : wd_E} {ci k N : Nat} {f : Nat → FieldType} {v : Value} (hf : fl_ty[ci]? = some f) (hN : fl_N[ci]? = some N) (hk : k < N)
    (q : (fl_kind ci k < 2 ∧ ∃ x, v = .int x ∧ (fl_kind ci k = 1 → fl_bit x = true)) ∨ (fl_kind ci k = 2 ∧ ∃ o, v = fl_rv o)) : narrow (f k) (wd_v E v) = wd_v E v ∧ fits (f k) (wd_v E v) = true := by
  have hb : ∀ x : Int32, fl_bit x = true → narrow .boolean (.int x) = .int x ∧ fits .boolean (.int x) = true := by
    intro x hx
    simp only [fl_bit, Bool.or_eq_true, decide_eq_true_eq] at hx
    rcases hx with rfl | rfl <;> exact ⟨by decide, by decide⟩
  unfold fl_kind at q
  rw [hf, hN] at q
  simp only [Option.getD_some, if_pos hk] at q
  cases ht : f k <;> rw [ht] at q <;> simp at q
  · obtain ⟨x, rfl⟩ := q
    exact ⟨rfl, rfl⟩
  · obtain ⟨x, rfl, hx⟩ := q
    exact hb x hx
  · obtain ⟨o, rfl⟩ := q
    cases o <;> exact ⟨rfl, rfl⟩
  · obtain ⟨o, rfl⟩ := q
    cases o <;> exact ⟨rfl, rfl⟩
section OPS
variable {p : Program} {l : Launch} {e : Env} {R : Room} {s : State} {m : MethodId} {args : Array Value} {below : List Frame} {meth : Method} {c : Code} {H : Heap} {locs : List Loc} {cells slots : Nat} {Q : State → Prop}
variable {E : wd_E} {g : Nat → Nat → Int32} {cA : Nat → ClassId} {n : Nat} {h h' : Hp} {y : sm_M} {pc : Nat} {lsA : Array Slot} {rest : List Value}
/-- a field of a cell that is made -/
theorem rw_get (C : Ctx E g p s m args meth c y) (S : Sb E g cA n h s H locs) {r ci k idx : Nat} (hr : r < n) (hl : fl_lay r = (ci, (fl_N[ci]?).getD 0)) {ps : Nat} (hf : sm_at sm_rf y.2.2.2.2 idx = some (ci, k, ps)) (hy : sm_own[y.2.2.2.2]? = some y.1.cls) (hd : decode y.2.1 pc = .ok (.getfield idx, 3))
    (kk : W p l e R s m args below meth c H locs cells slots Q (F0 m (pc + 3) lsA (wd_v E (wd_f h ci r k) :: rest))) : W p l e R s m args below meth c H locs cells slots Q (F0 m pc lsA (.ref (wd_ad E r) :: rest)) := by
  obtain ⟨hx, hb, -, -, hown, hts, -⟩ := C
  have h1 := sw_of sw_fall hy hf
  unfold sw_f at h1
  cases hc : vwCl[ci]? with
  | none => rw [hc] at h1; cases h1
  | some q =>
    obtain ⟨Cn, T, N⟩ := q
    rw [hc] at h1
    simp only [Bool.and_eq_true, decide_eq_true_eq] at h1
    obtain ⟨hk, hw⟩ := h1
    obtain ⟨ty, e1, e2, e3, e4⟩ := cl_of hc
    rw [e2] at hl
    rw [wd_adlt S.1.1 hr]
    exact va_get hx hb hts (cl_words hc).1 hown S.1.2.2.1 S.1.2.1 r (by rw [wd_at hr, wd_c_obj hl (by have := cl_lt hc; omega)]) hc k hk (hts _ (sw_tbl hw)) (fun _ q => q) (by simp [hk]) hd kk
/-- a write to a field -/
theorem rw_put (C : Ctx E g p s m args meth c y) (S : Sb E g cA n h s H locs) {r ci k idx : Nat} {v : Value} (hr : r < n) (hl : fl_lay r = (ci, (fl_N[ci]?).getD 0)) {ps : Nat} (hf : sm_at sm_rf y.2.2.2.2 idx = some (ci, k, ps)) (hy : sm_own[y.2.2.2.2]? = some y.1.cls) (hd : decode y.2.1 pc = .ok (.putfield idx, 3))
    {nx : Nat} (hst : sm_static y (pc, (10, [(ci : Int), (k : Int)], nx)) = true)
    (hv : (fl_kind ci k < 2 ∧ ∃ x, v = .int x ∧ (fl_kind ci k = 1 → fl_bit x = true)) ∨ (fl_kind ci k = 2 ∧ ∃ o, v = fl_rv o)) (h1 : ∀ j, j ≠ r → h'.1 j = h.1 j ∧ h'.2 j = h.2 j) (h2 : ∀ j, j ≠ k → wd_f h' ci r j = wd_f h ci r j) (h3 : wd_f h' ci r k = v)
    (kk : ∀ (H1 : Heap) (locs1 : List Loc), Sb E g cA n h' s H1 locs1 → W p l e R s m args below meth c H1 locs1 cells slots Q (F0 m (pc + 3) lsA rest)) : W p l e R s m args below meth c H locs cells slots Q (F0 m pc lsA (wd_v E v :: .ref (wd_ad E r) :: rest)) := by
  obtain ⟨hx, hb, -, -, hown, hts, -, -, -, hnm⟩ := C
  have hw1 := sw_of sw_fall hy hf
  unfold sw_f at hw1
  cases hc : vwCl[ci]? with
  | none => rw [hc] at hw1; cases hw1
  | some q =>
    obtain ⟨Cn, T, N⟩ := q
    rw [hc] at hw1
    simp only [Bool.and_eq_true, decide_eq_true_eq] at hw1
    obtain ⟨hk, hw⟩ := hw1
    have hci := cl_lt hc
    have hci20 : ci < 20 := by omega
    obtain ⟨ty, e1, e2, e3, e4⟩ := cl_of hc
    rw [e2] at hl
    obtain ⟨hn, hfit⟩ := put_ok (E := E) e1 e2 hk hv
    have hin := (cl_words hc).1
    have hK := S.1.2.2.1
    have he := wd_at (E := E) (cA := cA) (h := h) hr
    rw [wd_c_obj hl hci20] at he
    have hlink := hts _ (sw_tbl hw)
    have hap := va_apart (own := y.1.cls) hts hin ty e3 e4 hK hc
    obtain ⟨r', hr1, cell, q1, q2, q3, q4⟩ := S.1.2.1 r _ he
    have hr' : r' = (Cn, T, N) := Option.some.inj (hr1.symm.trans hc)
    subst hr'
    obtain ⟨hS, hfc, kC, hkC, hkind⟩ := hK.1 ci _ hc
    obtain ⟨cf, kf, fi, f, hi, hsl⟩ := hS k hk
    have hlay := hts _ (hin _ (u_in_lay hk))
    unfold u_lay at hlay
    have hstf := (u_facts hfc hkC (u_lays hts hin hk) hi).1
    have hNl : (((List.range N).map (fun j => wd_v E (wd_f h ci r j)))).length = N := by simp
    have hfin : ∀ (H' : Heap), H'[E.1 + r]? = some (cell.setSlot f.slot (wd_v E v)) → H'.size = H.size → (∀ q, q ≠ E.1 + r → H'[q]? = H[q]?) → Sb E g cA n h' s H' (locs ++ [⟨E.1 + r, f.slot⟩]) := by
      intro H' z1 z2 z3
      refine S.upd hr h1 (wd_c_obj hl hci20) ⟨_, hc, ?_⟩ z2 z3 _
      rw [fs_set (f := fun j => wd_v E (wd_f h ci r j)) (k := k) (fun j hj => by rw [h2 j hj])]
      simp only [h3]
      rw [hsl] at z1
      exact t_OB.to (V := updV (vp_V ((List.range N).map (fun j => wd_v E (wd_f h ci r j)))) k (wd_v E v)) ⟨_, z1, q2, q3, t_set q4 hap hk _⟩ (fun j _ => vp_updV_set (by rw [hNl]; exact hk) _ j)
    rw [wd_adlt S.1.1 hr]
    unfold sm_static at hst
    simp only [Int.toNat_natCast, hc] at hst
    by_cases hfn : (T k).2.2.2 = true
    · rw [if_pos hfn] at hlay hst
      rw [Bool.and_eq_true] at hst
      have hdecl : (T k).1 = y.1.cls := eq_of_beq hst.2
      have hcf : m.cls = cf := by
        obtain ⟨_, _, c', _, _, _, -, -, hf', -, -, -, hown2, -⟩ := Cond.laysFinal_spec hlay
        have z1 : c' = cf := by have := hi.symm.trans hf'; simp at this; exact this.1.symm
        rw [hdecl] at hown2
        rw [← z1]
        exact Option.some.inj (hown.symm.trans hown2)
      have h6 := u_fits hfc hkC hkind (Or.inr hlay) hi (e3 k hk) hn hfit
      exact W.putFinK hx hb hown hlink hi hstf hcf (hnm (eq_of_beq hst.1)) (by rw [q2]; exact h6) q1 q3 (by rw [hsl]; exact k2_hasslot (q4 k hk)) rfl rfl hd fun H' z1 z2 z3 => kk H' _ (hfin H' z1 z2 z3)
    · rw [if_neg hfn] at hlay
      have h6 := u_store hfc hkC hkind hlay hi (e3 k hk) hn hfit
      exact W.putK hx hb (f := f) ⟨hown, hlink, ⟨_, _, _, hi⟩, hstf⟩ (by rw [q2]; exact h6) q1 q3 (by rw [hsl]; exact k2_hasslot (q4 k hk)) rfl rfl hd fun H' z1 z2 z3 => kk H' _ (hfin H' z1 z2 z3)
end OPS
