/-! THE LAW'S ENTRY: from the Statement's start to the flat machine's -/
def fl_g (L : Nat) (xs : Nat → Int32) : Nat → Nat → Int32 := fun j i => if j = 10 then xs i else if j = 11 then Int32.ofNat L else (((fl_st[j]?).getD []).getD i 0)
def fl_h0 (g : Nat → Nat → Int32) : Hp := (fun k j => if 1000 ≤ k then g (k - 1000) j else 0, fun _ _ => none)
theorem sn_lays : sm_sn.all (fun nm => decide (Cond.laysStatic "CardIndex" nm "[I" ∈ lw_tbl)) = true := by decide +kernel
theorem sn_ini : Cond.initialized "CardIndex" ∈ lw_tbl := by decide +kernel
theorem sn_ao : [RX0, RX3, RX7, RX8].all (fun nm => decide (Cond.arrayOver (.object nm) ∈ lw_tbl)) = true := by decide +kernel
/-- what the Statement says of the static arrays: their class, their length, their values -/
def sn_flat (nm : String) (vs : List Int32) : List Cond := [.arrayOf (.static "CardIndex" nm "[I") .int, .eq (.length (.static "CardIndex" nm "[I")) (.int (Int32.ofNat vs.length))] ++ (List.range vs.length).map (fun j => .eq (.elem (.static "CardIndex" nm "[I") (.int (Int32.ofNat j))) (.int (vs.getD j 0)))
theorem sn_all : ((sm_sn.zip fl_st).all (fun q => (sn_flat q.1 q.2).all (fun w => decide (w ∈ flatC (Jvm.Cond.and given_1 narrow_1))))) = true := by decide +kernel
theorem sn_len : sm_sn.length = 10 ∧ fl_st.length = 10 := ⟨rfl, rfl⟩
theorem sn_of {args : Array Value} {s : State} {A : Nat → Prop} (hg : (Jvm.Cond.and given_1 narrow_1).before args s = true) (hts : ∀ w ∈ lw_tbl, w.before args s = true) (hA : ∀ a : Nat, a < s.heap.size → ¬ A a) (j : Nat) (hj : j < 10) :
    ∃ t : Nat, va_T .int t ((fl_st[j]?).getD []).length (fun i => .int (((fl_st[j]?).getD []).getD i 0)) A s s.heap ∧ ∀ nm, sm_sn[j]? = some nm → va_Z "CardIndex" nm "[I" (.ref t) A s s.heap := by
  obtain ⟨vs, hv⟩ : ∃ vs, fl_st[j]? = some vs := ⟨_, List.getElem?_eq_getElem (by rw [sn_len.2]; exact hj)⟩
  obtain ⟨nm, hn⟩ : ∃ nm, sm_sn[j]? = some nm := ⟨_, List.getElem?_eq_getElem (by rw [sn_len.1]; exact hj)⟩
  have hz : (nm, vs) ∈ sm_sn.zip fl_st := List.mem_of_getElem? (i := j) (by rw [List.getElem?_zip_eq_some]; exact ⟨hn, hv⟩)
  have h1 : ∀ w ∈ sn_flat nm vs, w.before args s = true := fun w hw => flat_of_before _ hg w (of_decide_eq_true (List.all_eq_true.mp (List.all_eq_true.mp sn_all _ hz) w hw))
  have hlen : vs.length < 2 ^ 31 := by
    have : fl_st.all (fun vs => decide (vs.length < 100)) = true := by decide +kernel
    have := of_decide_eq_true (List.all_eq_true.mp this vs (List.mem_of_getElem? hv))
    omega
  obtain ⟨t, e1, e2⟩ := va_Tof (A := A) (f := fun i => .int (vs.getD i 0)) hlen (h1 _ (List.mem_append_left _ List.mem_cons_self)) (va_eqt (h1 _ (List.mem_append_left _ (List.mem_cons_of_mem _ List.mem_cons_self)))) (fun i hi => va_eqt (h1 _ (List.mem_append_right _ (List.mem_map.mpr ⟨i, List.mem_range.mpr hi, rfl⟩)))) hA
  rw [hv]
  refine ⟨t, e2, fun nm' hn' => ?_⟩
  cases hn.symm.trans hn'
  exact va_Zof (hts _ (of_decide_eq_true (List.all_eq_true.mp sn_lays nm (List.mem_of_getElem? hn)))) (hts _ sn_ini) e1 hA
def R_law : String := "CardIndexLaw"
def lw_P (b : Addr) (xs : List Int32) (args : Array Value) (s : State) : Prop := args = #[.ref b] ∧ s.IntsAt b xs ∧ xs.length ≤ 3072 ∧ (Jvm.Cond.and given_1 narrow_1).before args s = true
def lw_Q (_ : Array Value) (s : State) (o : Outcome) (t : State) : Prop := o = .returned (some (.int 1)) ∧ Framed s o t [] 600000 7302250
def lw_Z (below : List Frame) (a : Array Value) (s : State) : State → Prop := fun t => ∃ o, t.status = .running ∧ Ended t below o ∧ lw_Q a s o t
/-- the law's own end, with 1 on the stack, nothing written that was there before, its room as the claim has it -/
theorem lw_ret {p : Program} {l : Launch} {e : Env} {s : State} {m : MethodId} {below : List Frame} {meth : Method} {c : Code} {b : Nat} (hx : p.tables.exec = Jvm.exec) (hb : c.code = code) (hr : meth.sig.returnType = ret) (hlocks : meth.locks = false) {pc : Nat} {H : Heap} {ls : Array Slot} (hdg : decode code pc = .ok (.ireturn, 1)) : W p l e room_1 s m #[Value.ref b] below meth c H [] 600000 7302250 (lw_Z below #[Value.ref b] s) (F0 m pc ls [.int 1]) := by
  intro T hT X
  obtain ⟨fs, hret, hrun, hended, hW, hframe⟩ := X.leave (v := some (.int 1)) (hlocks := hlocks) (fun h => by rw [hr] at h; cases h)
  have hmeth' : T.vm.method? m = some meth := X.method'
  refine ⟨T.setFrames fs, ?_, .returned (some (.int 1)), hrun, hended, rfl, ⟨_, rfl⟩, hW, hframe⟩
  jvm_step X.here [X.here.top, hx, hb, hdg, hmeth', hr, ret, narrow_b1]
  (try refine ⟨rfl, ?_⟩); (try refine ⟨rfl, ?_⟩)
  first | (intro acts; rw [hret _ acts rfl rfl rfl]) | rw [hret _ _ rfl rfl rfl]
  exact Steps.refl _
/-- what holds at the law's entry -/
def lw_At (p : Program) (s : State) (m : MethodId) (meth : Method) (c : Code) (b L : Nat) (xs : Nat → Int32) : Prop :=
  p.tables.exec = Jvm.exec ∧ c.code = code ∧ meth.sig.returnType = ret ∧ c.maxLocals = 4 ∧ s.vm.findClass R_law = some m.cls ∧ (∀ w ∈ lw_tbl, w.before #[Value.ref b] s = true) ∧ va_X b L xs s s.heap ∧ b < s.heap.size ∧ meth.locks = false ∧ (Jvm.Cond.and given_1 narrow_1).before #[Value.ref b] s = true
/-- what is owed of the flat machine: the law's run ends, with 1, all cells made -/
def FlatLaw : Prop := ∀ (L : Nat) (xs : Nat → Int32), L ≤ 3072 → ∃ (f : Nat) (h' : Hp), fl_run f 40 214 (0, fl_enter 4 [.ref 1010], [], fl_h0 (fl_g L xs), 0) = some (some (.int 1), h', fl_tot)
theorem sz_tot : wd_sz fl_tot ≤ 7302250 := by decide +kernel
theorem law_y : sm_ms[214]? = some (⟨"CardIndexLaw", "law", "([I)Z"⟩, code, 4, some .boolean, 11) := by rfl
set_option maxHeartbeats 4000000 in
theorem start_of (hF : FlatLaw) {p : Program} {e : Env} {s : State} {m : MethodId} {below : List Frame} {meth : Method} {c : Code} (l : Launch) {b L : Nat} {xs : Nat → Int32} (hL : L ≤ 3072) (C0 : lw_At p s m meth c b L xs) : W p l e room_1 s m #[Value.ref b] below meth c s.heap [] 0 0 (lw_Z below #[Value.ref b] s) (entryFrame m ([Value.ref b] : List Value).toArray 4) := by
  obtain ⟨hx, hb, hr, hml, hown, hts, hX, hbl, hlocks, hgv⟩ := C0
  obtain ⟨f, h', hrun⟩ := hF L xs hL
  have hA : ∀ a : Nat, a < s.heap.size → ¬ (fun q => s.heap.size ≤ q) a := fun a h => Nat.not_le.mpr h
  have hst := sn_of (A := fun q => s.heap.size ≤ q) hgv hts hA
  obtain ⟨sa, hsa⟩ : ∃ sa : Nat → Nat, ∀ j, j < 10 → va_T .int (sa j) ((fl_st[j]?).getD []).length (fun i => .int (((fl_st[j]?).getD []).getD i 0)) (fun q => s.heap.size ≤ q) s s.heap ∧ ∀ nm, sm_sn[j]? = some nm → va_Z "CardIndex" nm "[I" (.ref (sa j)) (fun q => s.heap.size ≤ q) s s.heap :=
    ⟨fun j => if h : j < 10 then Classical.choose (hst j h) else b, fun j hj => by simp only [dif_pos hj]; exact Classical.choose_spec (hst j hj)⟩
  have hts' : ∀ w ∈ sm_tbl, w.before #[Value.ref b] s = true := fun w hw => hts w (List.mem_filter.mp hw).1
  have hcl : ∀ (k : Nat) (q : vw_C), vwCl[k]? = some q → ∃ (cC : ClassId) (iS : Nat → Nat), u_Kn s q.1 q.2.1 q.2.2 cC iS := by
    intro k q hq
    obtain ⟨C, T, N⟩ := q
    exact u_known hts' (cl_words hq).1 (hts' _ (cl_words hq).2.1)
  have hcl2 : ∀ k : Nat, ∃ (cC : ClassId) (iS : Nat → Nat), ∀ q : vw_C, vwCl[k]? = some q → u_Kn s q.1 q.2.1 q.2.2 cC iS := by
    intro k
    cases hq : vwCl[k]? with
    | none => exact ⟨0, fun _ => 0, fun q z => by cases z⟩
    | some r =>
      obtain ⟨cC, iS, h9⟩ := hcl k r hq
      exact ⟨cC, iS, fun q z => by cases z; exact h9⟩
  obtain ⟨dC, dI, hKc⟩ : ∃ (dC : Nat → ClassId) (dI : Nat → Nat → Nat), ∀ (k : Nat) (q : vw_C), vwCl[k]? = some q → u_Kn s q.1 q.2.1 q.2.2 (dC k) (dI k) :=
    ⟨fun k => Classical.choose (hcl2 k), fun k => Classical.choose (Classical.choose_spec (hcl2 k)), fun k => Classical.choose_spec (Classical.choose_spec (hcl2 k))⟩
  have hLc : (Int32.ofNat L).toNatClampNeg = L := Int32.toNatClampNeg_ofNat_of_lt (by omega)
  have hE : ∃ E : wd_E, E = (s.heap.size, (fun j => if j = 10 then b else sa j), (dC, dI)) := ⟨_, rfl⟩
  obtain ⟨E, hE⟩ := hE
  have hE1 : E.1 = s.heap.size := by rw [hE]
  have hT : wd_T E (fl_g L xs) s s.heap := by
    rw [hE]
    refine ⟨fun j hj => ?_, fun j nm hn => ?_, fun w hw => ?_, fun q hq z => ?_⟩
    · by_cases h10 : j = 10
      · subst h10
        obtain ⟨scr, q1, q2, q3, q4, q5⟩ := hX
        refine ⟨scr, q1, q2, q3, ?_, ?_, ?_, Nat.not_le.mpr hbl⟩
        · rw [q4]; simp [wd_len, fl_g, hLc]
        · rw [q4]; simp [wd_len, fl_g, hLc]
        · intro j hj
          have : wd_len (fl_g L xs) 10 = L := by simp [wd_len, fl_g, hLc]
          rw [this] at hj
          simpa [fl_g] using q5 j hj
      · have z := (hsa j (by omega)).1
        simp only [if_neg h10]
        have e1 : wd_len (fl_g L xs) j = ((fl_st[j]?).getD []).length := by unfold wd_len; rw [if_neg h10]
        have e2 : (fun i => Value.int (fl_g L xs j i)) = fun i => .int (((fl_st[j]?).getD []).getD i 0) := by funext i; unfold fl_g; rw [if_neg h10, if_neg (by omega)]
        rw [e1, e2]
        exact z
    · have hj : j < 10 := by
        have := (List.getElem?_eq_some_iff.mp hn).1
        rwa [sn_len.1] at this
      simp only [if_neg (by omega : ¬ j = 10)]
      exact (hsa j hj).2 nm hn
    · have hw1 := hts w (List.mem_filter.mp hw).1
      have h2 := (List.mem_filter.mp hw).2
      cases w <;> first | exact va_Nw.of rfl hw1 | (exact absurd h2 (by simp))
    · have hao := sn_ao
      simp only [List.all_cons, List.all_nil, Bool.and_true, Bool.and_eq_true, decide_eq_true_eq] at hao
      rcases z with z | z | z | z <;> rw [z]
      · exact va_AO.of (hts _ hao.1)
      · exact va_AO.of (hts _ hao.2.1)
      · exact va_AO.of (hts _ hao.2.2.1)
      · exact va_AO.of (hts _ hao.2.2.2)
  have C : Ctx E (fl_g L xs) p s m #[Value.ref b] meth c (⟨"CardIndexLaw", "law", "([I)Z"⟩, code, 4, some .boolean, 11) := ⟨hx, hb, hml, hr, hown, hts', hT, hlocks, by rw [hE1]; exact Nat.le_refl _, fun z => absurd z (by decide)⟩
  have S : Sb E (fl_g L xs) (fun _ => 0) 0 (fl_h0 (fl_g L xs)) s s.heap [] := by
    refine ⟨⟨Nat.zero_le _, fun k q hk => by simp [wd_ws] at hk, ⟨?_, fun k q hk => by simp [wd_tys] at hk⟩, fun _ => by rw [hE1]; rfl, fun j i => ?_⟩, va_S.rf⟩
    · rw [hE]; exact hKc
    · simp [fl_h0]
  have hargs : ([Value.ref b] : List Value) = [Value.ref 1010].map (wd_v E) := by
    show _ = [Value.ref (wd_ad E 1010)]
    rw [wd_adge (by omega), hE]
    rfl
  have key := fl_sim l f 40 214 0 (fl_enter 4 [.ref 1010]) [] (fl_h0 (fl_g L xs)) 0 (some (.int 1)) h' fl_tot hrun (R := room_1) (below := below) (e := e) (Q := lw_Z below #[Value.ref b] s) (n0 := 0) C law_y S (Lv.entry [.ref 1010] (by decide)) (Nat.le_refl 0) ⟨by decide, by have := sz_tot; show wd_sz fl_tot - wd_sz 0 ≤ 7302250; omega, by decide, by decide⟩ ?_
  · have e0 : entryFrame m ([Value.ref b] : List Value).toArray 4 = F0 m 0 ((lg_sl ([Value.ref 1010].map (wd_v E)) ++ List.replicate (4 - (lg_sl ([Value.ref 1010].map (wd_v E))).length) Slot.unset).toArray) [] := by rw [lg_entry_eq, hargs]
    rw [Nat.sub_self, Nat.sub_self] at key
    rw [e0]
    exact key
  · intro pc q ls st cA H' locs' lsA' hc' hs' S'
    obtain ⟨i, len, hd, hl⟩ := cd_dec law_y hc'
    have hop := ret_op hs'
    have hri := (low_kind hl).1 hop
    cases i <;> first | (cases hri; done) | skip
    case return_ =>
      simp only [sm_low, sm_lower] at hl
      obtain ⟨rfl, rfl⟩ := it_some hl
      have := (iv21 hs').2
      cases this
    case lreturn =>
      simp only [sm_low, sm_lower] at hl
      obtain ⟨rfl, rfl⟩ := it_some hl
      obtain ⟨x, e1, e2⟩ := iv23 hs'
      cases e2
    case areturn =>
      simp only [sm_low, sm_lower] at hl
      obtain ⟨rfl, rfl⟩ := it_some hl
      obtain ⟨o, e1, e2⟩ := iv24 hs'
      cases o <;> cases e2
    case ireturn =>
      simp only [sm_low] at hl
      split at hl
      · rename_i hlen
        subst hlen
        cases hl
        obtain ⟨x, rfl, e2, e3⟩ := iv22 hs'
        cases e3
        refine va_forget (fun q hq => by have := S'.2.2.2 q hq; rw [hE1] at this; exact this) ?_
        refine W.widen (k := 600000) (n := 7302250) (by decide) (by have := sz_tot; show wd_sz fl_tot - wd_sz 0 ≤ 7302250; omega) ?_
        exact lw_ret hx hb hr hlocks hd
      · cases hl
