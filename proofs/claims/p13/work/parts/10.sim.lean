/-! A RUN OF THE FLAT MACHINE IS A RUN OF THE MACHINE -/
theorem fl_step_mono {q : Smi} {c c' : Cfg} (hs : fl_step q c = some (.inl c')) : c.2.2.2.2 ≤ c'.2.2.2.2 := by
  obtain ⟨op, a, nx⟩ := q
  obtain ⟨pc, ls, st, h, n⟩ := c
  have hcall : ∀ {b i m k nx} {ls : List (Option Value)} {st h n c'}, fl_call b i m k nx ls st h n ≠ some (.inl c') := by
    intro b i m k nx ls st h n c' z
    have := (ivcall z).2.2.1
    cases this
  unfold fl_step at hs
  simp only at hs
  split at hs
  all_goals (repeat' (split at hs))
  all_goals first
    | (cases hs; exact Nat.le_refl _)
    | (cases hs; exact Nat.le_succ _)
    | (cases hs)
    | (exact absurd hs hcall)
theorem fl_mono : ∀ (f d m : Nat) (c : Cfg) (v : Option Value) (h' : Hp) (n' : Nat), fl_run f d m c = some (v, h', n') → c.2.2.2.2 ≤ n' := by
  intro f
  induction f with
  | zero => intro d m c v h' n' h; cases h
  | succ f ih =>
    intro d m c v h' n' h
    unfold fl_run at h
    split at h
    · cases h
    · split at h
      · cases h
      · rename_i q _ c' hs
        exact Nat.le_trans (fl_step_mono hs) (ih _ _ _ _ _ _ h)
      · cases h
        exact Nat.le_refl _
      · split at h
        · cases h
        · split at h
          · cases h
          · split at h
            · split at h
              · cases h
              · rename_i v2 h2 n2 hr
                have z1 := ih _ _ _ _ _ _ hr
                have z2 := ih _ _ _ _ _ _ h
                exact Nat.le_trans z1 z2
            · cases h
theorem sm_maxL : sm_ms.all (fun y => decide (y.2.2.1 ≤ 40)) = true := by decide +kernel
theorem sw_word {m2 : Nat} {y : sm_M} (hy : sm_ms[m2]? = some y) (hlt : m2 < 214) : ∃ (q : Nat × Nat × Nat × Nat × Nat), sm_pos[m2]? = some q ∧ Cond.code y.1 y.2.1 y.2.2.1 y.2.2.2.1 ∈ sm_tbl ∧ Cond.initialized y.1.cls ∈ sm_tbl ∧ (q.2.2.1 = 99999 → Cond.instanceMethod y.1 ∈ sm_tbl ∧ (q.2.2.2.1 ≠ 99999 → Cond.selects y.1.cls y.1 y.1 ∈ sm_tbl)) ∧ (q.2.2.1 ≠ 99999 → Cond.static y.1 ∈ sm_tbl) ∧ (y.1.cls ≠ "java/lang/invoke/MethodHandle" ∧ y.1.cls ≠ "java/lang/invoke/VarHandle") ∧ plainName y.1.cls = true := by
  have hlen : sm_pos.length = 214 := by decide +kernel
  have hq : sm_pos[m2]? = some sm_pos[m2] := List.getElem?_eq_getElem (by omega)
  generalize sm_pos[m2] = q at hq
  have hz : (y, q) ∈ sm_ms.zip sm_pos := List.mem_of_getElem? (i := m2) (by rw [List.getElem?_zip_eq_some]; exact ⟨hy, hq⟩)
  have h1 := List.all_eq_true.mp sw_mall _ hz
  obtain ⟨q1, q2, q3, q4, q5⟩ := q
  obtain ⟨y1, y2, y3, y4, y5⟩ := y
  simp only [sw_m, Bool.and_eq_true] at h1
  obtain ⟨⟨⟨⟨-, a2⟩, a3⟩, a4⟩, a5⟩ := h1
  refine ⟨_, hq, ?_, sw_tbl a2, ?_, ?_, of_decide_eq_true a4, a5⟩
  · refine List.mem_filter.mpr ⟨?_, rfl⟩
    have h2 : Cond.code y1 y2 y3 y4 ∈ (sm_ms.zip sm_pos).map (fun e => Cond.code e.1.1 e.1.2.1 e.1.2.2.1 e.1.2.2.2.1) := List.mem_map.mpr ⟨_, hz, rfl⟩
    rw [sw_ccode] at h2
    obtain ⟨e, -, he⟩ := List.mem_filterMap.mp h2
    exact List.mem_of_getElem? he
  · intro z
    simp only at z
    rw [if_pos z, Bool.and_eq_true] at a3
    refine ⟨sw_tbl a3.1, fun z2 => ?_⟩
    have a6 := a3.2
    rw [Bool.or_eq_true] at a6
    rcases a6 with a6 | a6
    · exact absurd (of_decide_eq_true a6) z2
    · exact sw_tbl a6
  · intro z
    simp only at z
    rw [if_neg z] at a3
    exact sw_tbl a3
theorem fl_args_mem {E : wd_E} (vs : List Value) : ∀ (k i : Nat) (v : Value), (fl_args vs)[i]? = some (some v) → (k + i, wd_v E v) ∈ lv_args k (vs.map (wd_v E)) := by
  induction vs with
  | nil => intro k i v h; simp [fl_args] at h
  | cons a t ih =>
    intro k i v h
    rw [List.map_cons]
    unfold lv_args
    rw [wd_v_cat]
    unfold fl_args at h
    by_cases hc : a.category = 2
    · rw [if_pos hc] at h ⊢
      match i, h with
      | 0, h => cases h; exact List.mem_cons_self
      | 1, h => cases h
      | i + 2, h =>
        have := ih (k + 2) i v (by simpa using h)
        rw [show k + (i + 2) = k + 2 + i by omega]
        exact List.mem_cons_of_mem _ this
    · rw [if_neg hc] at h ⊢
      match i, h with
      | 0, h => cases h; exact List.mem_cons_self
      | i + 1, h =>
        have := ih (k + 1) i v (by simpa using h)
        rw [show k + (i + 1) = k + 1 + i by omega]
        exact List.mem_cons_of_mem _ this
theorem lg_sl_len {E : wd_E} (vs : List Value) : (lg_sl (vs.map (wd_v E))).length = (fl_args vs).length := by
  induction vs with
  | nil => rfl
  | cons a t ih =>
    have e1 : lg_sl ((a :: t).map (wd_v E)) = (if (wd_v E a).category = 2 then [Slot.val (wd_v E a), .second] else [Slot.val (wd_v E a)]) ++ lg_sl (t.map (wd_v E)) := by simp [lg_sl]
    have e2 : fl_args (a :: t) = if a.category = 2 then some a :: none :: fl_args t else some a :: fl_args t := rfl
    rw [e1, List.length_append, ih, wd_v_cat, e2]
    by_cases hc : a.category = 2
    · rw [if_pos hc, if_pos hc]
      show 2 + _ = _ + 1 + 1
      omega
    · rw [if_neg hc, if_neg hc]
      show 1 + _ = _ + 1
      omega
theorem Lv.entry {E : wd_E} {nL : Nat} (vs : List Value) (h : (fl_args vs).length ≤ nL) : Lv E ((lg_sl (vs.map (wd_v E)) ++ List.replicate (nL - (lg_sl (vs.map (wd_v E))).length) Slot.unset).toArray) nL (fl_enter nL vs) := by
  have h0 := lv_entry (vs.map (wd_v E)) (n := nL) (by rw [lg_sl_len]; exact h)
  refine ⟨h0.1, h0.2.1, by simp [fl_enter]; omega, fun i v hv => ?_⟩
  have : (fl_args vs)[i]? = some (some v) := by
    unfold fl_enter at hv
    by_cases hi : i < (fl_args vs).length
    · rw [List.getElem?_append_left hi] at hv
      exact hv
    · rw [List.getElem?_append_right (by omega)] at hv
      rw [List.getElem?_replicate] at hv
      split at hv <;> cases hv
  have z := h0.2.2 _ (fl_args_mem (E := E) vs 0 i v this)
  rw [Nat.zero_add] at z
  exact z
/-- a method's end -/
def sv_Q (E : wd_E) (g : Nat → Nat → Int32) (v : Option Value) (h' : Hp) (n' : Nat) : Array Value → State → Outcome → State → Prop := fun _ st o t => o = .returned (v.map (wd_v E)) ∧ (∃ cA, Wd E g cA n' h' t t.heap) ∧ va_F (fun q => E.1 ≤ q) st t
def sv_P (E : wd_E) (g : Nat → Nat → Int32) (cA : Nat → ClassId) (n : Nat) (h : Hp) (as : List Value) : Array Value → State → Prop := va_Pc (as.map (wd_v E)) (fun U => Wd E g cA n h U U.heap ∧ wd_T E g U U.heap ∧ E.1 ≤ U.heap.size)
def rm_d (d mc ms : Nat) : Room := { frames := d + 1, cells := mc, slots := ms, locals := 60 * (d + 1) }
def sv_ws (y : sm_M) : List Cond := Cond.code y.1 y.2.1 y.2.2.1 y.2.2.2.1 :: sm_tbl
theorem sv_blind {E : wd_E} {g : Nat → Nat → Int32} {cA : Nat → ClassId} {n : Nat} {h : Hp} {as : List Value} : FrameBlind (sv_P E g cA n h as) := by
  intro a U gf mk q
  obtain ⟨q1, q2, q3, q4⟩ := q
  exact ⟨q1, q2.moved (U := U.calling gf mk a) (Vm.Alike.refl U.vm), q3.same (s := U) (U := U.calling gf mk a) rfl, q4⟩
def is_retI : Instr → Bool
  | .return_ => true
  | .ireturn => true
  | .lreturn => true
  | .areturn => true
  | _ => false
def is_callI : Instr → Bool
  | .invokevirtual _ => true
  | .invokestatic _ => true
  | .invokespecial _ => true
  | _ => false
theorem low_kind0 {own pc n : Nat} {i : Instr} {q : Smi} (h : sm_lower own pc i = some (q, n)) : (21 ≤ q.1 ∧ q.1 ≤ 24 → is_retI i = true) ∧ (18 ≤ q.1 ∧ q.1 ≤ 20 → is_callI i = true) := by
  unfold sm_lower at h
  split at h
  all_goals (repeat' (split at h))
  all_goals first
    | (cases h; exact ⟨fun z => by first | rfl | (exfalso; have := z.1; have := z.2; simp at *), fun z => by first | rfl | (exfalso; have := z.1; have := z.2; simp at *)⟩)
    | (cases h)
theorem low_kind {own pc len : Nat} {ret : Option FieldType} {i : Instr} {q : Smi} (h : sm_low own ret pc i len = some q) : (21 ≤ q.1 ∧ q.1 ≤ 24 → is_retI i = true) ∧ (18 ≤ q.1 ∧ q.1 ≤ 20 → is_callI i = true) := by
  unfold sm_low at h
  split at h
  · have z := (it_some h).2
    subst z
    exact ⟨fun z => by simp at z, fun z => by simp at z⟩
  · split at h
    · split at h
      · cases h; exact ⟨fun _ => rfl, fun z => by simp at z⟩
      · cases h; exact ⟨fun _ => rfl, fun z => by simp at z⟩
      · cases h
    · cases h
  · split at h
    · rename_i q0 n0 e0
      have z := (it_some h).2
      subst z
      exact low_kind0 e0
    · cases h
theorem ret_op {q : Smi} {c : Cfg} {v : Option Value} (hs : fl_step q c = some (.inr (.inr v))) : 21 ≤ q.1 ∧ q.1 ≤ 24 := by
  obtain ⟨op, a, nx⟩ := q
  obtain ⟨pc, ls, st, h, n⟩ := c
  have hcall : ∀ {b i m k nx} {ls : List (Option Value)} {st h n v}, fl_call b i m k nx ls st h n ≠ some (.inr (.inr v)) := by
    intro b i m k nx ls st h n c' z
    have := (ivcall z).2.2.1
    cases this
  unfold fl_step at hs
  simp only at hs
  split at hs
  all_goals (repeat' (split at hs))
  all_goals first
    | exact ⟨Nat.le_of_ble_eq_true rfl, Nat.le_of_ble_eq_true rfl⟩
    | (cases hs; done)
    | (exact absurd hs hcall)
theorem call_op {q : Smi} {c : Cfg} {z : Nat × List Value × List Value × Nat} (hs : fl_step q c = some (.inr (.inl z))) : 18 ≤ q.1 ∧ q.1 ≤ 20 := by
  obtain ⟨op, a, nx⟩ := q
  obtain ⟨pc, ls, st, h, n⟩ := c
  unfold fl_step at hs
  simp only at hs
  split at hs
  all_goals (repeat' (split at hs))
  all_goals first
    | exact ⟨Nat.le_of_ble_eq_true rfl, Nat.le_of_ble_eq_true rfl⟩
    | (cases hs; done)
theorem call_form {q : Smi} {c : Cfg} {m2 nx : Nat} {as rest : List Value} (hs : fl_step q c = some (.inr (.inl (m2, as, rest, nx)))) : ∃ (m k : Int) (nx' : Nat), (q = (18, [m, k], nx') ∨ q = (19, [m, k], nx') ∨ q = (20, [m, k], nx')) ∧ m2 = m.toNat := by
  obtain ⟨op, a, nx9⟩ := q
  obtain ⟨pc, ls, st, h, n⟩ := c
  have hcall : ∀ {b i m k nx0} {ls : List (Option Value)} {st h n}, fl_call b i m k nx0 ls st h n = some (.inr (.inl (m2, as, rest, nx))) → m2 = m := by
    intro b i m k nx0 ls st h n z
    have := (ivcall z).2.2.1
    cases this
    rfl
  unfold fl_step at hs
  simp only at hs
  split at hs
  all_goals (repeat' (split at hs))
  all_goals first
    | (cases hs; done)
    | exact ⟨_, _, _, Or.inl rfl, hcall hs⟩
    | exact ⟨_, _, _, Or.inr (Or.inl rfl), hcall hs⟩
    | exact ⟨_, _, _, Or.inr (Or.inr rfl), hcall hs⟩
theorem sm_pos_len : sm_pos.length = 214 := by decide +kernel
theorem call_lt {y : sm_M} {pc : Nat} {q : Smi} {c : Cfg} {m2 nx : Nat} {as rest : List Value} (hst : sm_static y (pc, q) = true) (hs : fl_step q c = some (.inr (.inl (m2, as, rest, nx)))) : m2 < 214 := by
  obtain ⟨m, k, nx', hq, rfl⟩ := call_form hs
  rcases Nat.lt_or_ge m.toNat 214 with z | z
  · exact z
  · exfalso
    have hn : sm_pos[m.toNat]? = none := List.getElem?_eq_none (by rw [sm_pos_len]; exact z)
    rcases hq with rfl | rfl | rfl <;> simp [sm_static, hn] at hst
section RET
variable {p : Program} {l : Launch} {e : Env} {R : Room} {s : State} {m : MethodId} {args : Array Value} {below : List Frame} {meth : Method} {c : Code} {H : Heap} {locs : List Loc}
variable {E : wd_E} {g : Nat → Nat → Int32} {cA : Nat → ClassId} {n n0 mi : Nat} {h : Hp} {y : sm_M} {pc : Nat} {lsA : Array Slot} {ls : List (Option Value)} {st : List Value} {q : Smi} {v : Option Value}
/-- the end of a method -/
theorem st_ret (C : Ctx E g p s m args meth c y) (hy : sm_ms[mi]? = some y) (S : Sb E g cA n h s H locs) (hc : fl_code mi pc = some q) (hs : fl_step q (pc, ls, st, h, n) = some (.inr (.inr v))) :
    W p l e R s m args below meth c H locs (n - n0) (wd_sz n - wd_sz n0) (MQ below (sv_Q E g v h n) args s (n - n0) (wd_sz n - wd_sz n0) (fun q => E.1 ≤ q)) (F0 m pc lsA (st.map (wd_v E))) := by
  obtain ⟨i, len, hd, hl⟩ := cd_dec hy hc
  have hst := cd_static hy hc
  obtain ⟨hx, hb, hml, hr, hown, hts, hT, hlocks, hbs, hnm⟩ := id C
  have hq : ∀ (w : Option Value), w = v.map (wd_v E) → ∀ t : State, t.heap = H → s.WarmedH t.vm → sv_Q E g v h n args s (.returned w) t := by
    intro w hw t ht hW
    refine ⟨by rw [hw], ⟨cA, ?_⟩, S.2.F ht⟩
    rw [ht]
    exact S.1.moved hW.alike
  have hmono := @fl_step_mono
  cases i
  case return_ =>
    simp only [sm_low, sm_lower] at hl
    obtain ⟨rfl, rfl⟩ := it_some hl
    obtain ⟨rfl, e2⟩ := iv21 hs
    cases e2
    have hrn : y.2.2.2.1 = none := eq_of_beq hst
    exact W.vret hx hb (by rw [hr, hrn]) (hq _ rfl) S.2.2.2 hd
  case ireturn =>
    simp only [sm_low] at hl
    split at hl
    · rename_i hlen
      subst hlen
      split at hl
      · rename_i hrt
        cases hl
        obtain ⟨x, rfl, e2, e3⟩ := iv22 hs
        cases e3
        exact W.iret hx hb (by rw [hr, hrt]) (hq _ rfl) S.2.2.2 hd
      · rename_i hrt
        cases hl
        obtain ⟨x, rfl, e2, e3⟩ := iv22 hs
        cases e3
        have hbit : x = 0 ∨ x = 1 := by
          rcases e2 with e2 | e2
          · cases e2
          · simpa [fl_bit] using e2
        exact W.zret hx hb (by rw [hr, hrt]) (by rcases hbit with rfl | rfl <;> decide) (hq _ rfl) S.2.2.2 hd
      · cases hl
    · cases hl
  case lreturn =>
    simp only [sm_low, sm_lower] at hl
    obtain ⟨rfl, rfl⟩ := it_some hl
    obtain ⟨x, rfl, e2⟩ := iv23 hs
    cases e2
    have hrn : y.2.2.2.1 = some .long := eq_of_beq hst
    exact W.lret hx hb (by rw [hr, hrn]) (hq _ rfl) S.2.2.2 hd
  case areturn =>
    simp only [sm_low, sm_lower] at hl
    obtain ⟨rfl, rfl⟩ := it_some hl
    obtain ⟨o, rfl, e2⟩ := iv24 hs
    cases e2
    simp only [sm_static] at hst
    have hrt : ∃ rt, y.2.2.2.1 = some rt ∧ ((∃ n, rt = .object n) ∨ ∃ t, rt = .array t) := by
      split at hst
      · rename_i z; exact ⟨_, z, Or.inl ⟨_, rfl⟩⟩
      · rename_i z; exact ⟨_, z, Or.inr ⟨_, rfl⟩⟩
      · cases hst
    obtain ⟨rt, e3, e4⟩ := hrt
    have hv : wd_v E (fl_rv o) = .null ∨ ∃ a, wd_v E (fl_rv o) = .ref a := by
      cases o with
      | none => exact Or.inl rfl
      | some b => exact Or.inr ⟨_, rfl⟩
    exact W.aret hx hb (by rw [hr, e3]) e4 hv (hq _ rfl) S.2.2.2 hd
  all_goals
    exfalso
    have z1 := ret_op hs
    have z2 := (low_kind hl).1 z1
    cases z2
end RET
theorem fl_kinds2 : ∀ b, b < fl_tot → ((fl_lay b).1 < 11 ∧ (fl_N[(fl_lay b).1]?).getD 0 = (fl_lay b).2) ∨ 20 ≤ (fl_lay b).1 := by decide +kernel
theorem sm_own11 : ∀ k, k < 11 → sm_own[k]? = (vwCl[k]?).map (fun q => q.1) := by decide +kernel
theorem sm_own14 : sm_ms.all (fun y => decide (y.2.2.2.2 < 14)) = true := by decide +kernel
section SIM
variable {p : Program} {l : Launch} {e : Env} {R : Room} {s : State} {m : MethodId} {args : Array Value} {below : List Frame} {meth : Method} {c : Code} {H : Heap} {locs : List Loc} {cells slots mc ms : Nat} {Q : State → Prop}
variable {E : wd_E} {g : Nat → Nat → Int32} {cA : Nat → ClassId} {n n2 : Nat} {h h2 : Hp} {y : sm_M} {pc : Nat} {lsA : Array Slot} {rest st0 : List Value} {v : Option Value} {a : Array Value}
/-- behind a call -/
theorem sv_call (S : Sb E g cA n h s H locs) (hr : va_Run p l e R s m args below meth c H locs cells slots mc ms (F0 m pc lsA st0) rest (sv_Q E g v h2 n2 a) (fun q => E.1 ≤ q))
    (kk : ∀ (cA' : Nat → ClassId) (H1 : Heap) (locs1 : List Loc), Sb E g cA' n2 h2 s H1 locs1 → W p l e R s m args below meth c H1 locs1 (cells + mc) (slots + ms) Q (F0 m (pc + 3) lsA ((v.map (wd_v E)).toList ++ rest))) : W p l e R s m args below meth c H locs cells slots Q (F0 m pc lsA st0) := by
  intro T hT X
  obtain ⟨v', st₀, t, T', L, h0, X', hL, e1, e2, ⟨hv, ⟨cA', hW⟩, hz, hk⟩, st⟩ := hr T hT X
  cases hv
  rw [h0] at hz hk
  have hal : s.vm.Alike t.vm := by rw [← e2]; exact X'.warmed.alike
  obtain ⟨t2, a1, b1⟩ := kk cA' T'.heap (locs ++ L) ⟨by rw [e1]; exact hW.moved hal.symm, Nat.le_trans S.2.1 (by rw [e1]; exact hz), fun q h1 h2 => by rw [e1, hk q (Nat.lt_of_lt_of_le h1 S.2.1) h2]; exact S.2.2.1 q h1 h2, fun q hq => by
      rcases List.mem_append.mp hq with h | h
      · exact S.2.2.2 q h
      · exact hL q h⟩ T' rfl X'
  exact ⟨t2, st t2 a1, b1⟩
theorem sv_pre (C : Ctx E g p s m args meth c y) (S : Sb E g cA n h s H locs) {as : List Value} {U : State} (hU : U.heap = H) (hW : s.WarmedH U.vm) : sv_P E g cA n h as (as.map (wd_v E)).toArray U := by
  obtain ⟨hx, hb, hml, hr, hown, hts, hT, hlocks, hbs, hnm⟩ := C
  refine ⟨rfl, ?_, ?_, ?_⟩
  · rw [hU]; exact S.1.moved hW.alike
  · rw [hU]; exact (hT.kept (fun a h1 h2 => S.2.2.1 a h1 h2)).warm hW
  · rw [hU]; exact Nat.le_trans hbs S.2.1
set_option maxHeartbeats 4000000 in
/-- a call, given the callee's contract -/
theorem st_call (C : Ctx E g p s m args meth c y) {mi m2 nx d : Nat} {y2 : sm_M} {q : Smi} {ls : List (Option Value)} {st as rest' : List Value} (hy : sm_ms[mi]? = some y) (hy2 : sm_ms[m2]? = some y2) (S : Sb E g cA n h s H locs) (hL : Lv E lsA y.2.2.1 ls) (hc : fl_code mi pc = some q) (hs : fl_step q (pc, ls, st, h, n) = some (.inr (.inl (m2, as, rest', nx))))
    (hM : Met l y2.1 (sv_ws y2) (rm_d d mc ms) (sv_P E g cA n h as) (sv_Q E g v h2 n2) mc ms (fun q => E.1 ≤ q))
    (hR : cells + mc ≤ R.cells ∧ slots + ms ≤ R.slots ∧ d + 2 ≤ R.frames ∧ 60 * (d + 2) ≤ R.locals)
    (kk : ∀ (cA' : Nat → ClassId) (H1 : Heap) (locs1 : List Loc), Sb E g cA' n2 h2 s H1 locs1 → W p l e R s m args below meth c H1 locs1 (cells + mc) (slots + ms) Q (F0 m nx lsA ((v.toList ++ rest').map (wd_v E)))) : W p l e R s m args below meth c H locs cells slots Q (F0 m pc lsA (st.map (wd_v E))) := by
  obtain ⟨i, len, hd, hl⟩ := cd_dec hy hc
  have ho := sm_ownof hy
  have ho2 := sm_ownof hy2
  have hst := cd_static hy hc
  have hop := call_op hs
  have hmaxL : y2.2.2.1 ≤ 40 := of_decide_eq_true (List.all_eq_true.mp sm_maxL y2 (List.mem_of_getElem? hy2))
  have hroom : (rm_d d mc ms).frames + 1 ≤ R.frames ∧ 8 + (y2.2.2.1 + 11) + (rm_d d mc ms).locals ≤ R.locals := by
    refine ⟨hR.2.2.1, ?_⟩
    show 8 + (y2.2.2.1 + 11) + 60 * (d + 1) ≤ R.locals
    omega
  have hcells : cells + mc ≤ R.cells ∧ slots + ms ≤ R.slots := ⟨hR.1, hR.2.1⟩
  have kk' : ∀ (cA' : Nat → ClassId) (H1 : Heap) (locs1 : List Loc), Sb E g cA' n2 h2 s H1 locs1 → nx = pc + 3 → W p l e R s m args below meth c H1 locs1 (cells + mc) (slots + ms) Q (F0 m (pc + 3) lsA ((v.map (wd_v E)).toList ++ rest'.map (wd_v E))) := by
    intro cA' H1 locs1 S1 hnx
    have := kk cA' H1 locs1 S1
    rw [hnx, List.map_append] at this
    cases v <;> exact this
  have hpre : ∀ U : State, U.heap = H → s.WarmedH U.vm → sv_P E g cA n h as (as.map (wd_v E)).toArray U := fun U hU hW => sv_pre C S hU hW
  obtain ⟨hx, hb, hml, hr, hown, hts, hT, hlocks, hbs, hnm⟩ := id C
  have hfix : CallFix p m c y.2.1 y.2.2.1 s args sm_tbl y.1.cls := ⟨hx, hb, hml, hown, hts⟩
  cases i
  case invokevirtual k =>
    simp only [sm_low, sm_lower] at hl
    cases hk : sm_at sm_rm y.2.2.2.2 k with
    | none => rw [hk] at hl; cases hl
    | some z =>
      obtain ⟨m3, ps, nest⟩ := z
      rw [hk] at hl
      simp only at hl
      split at hl
      · rename_i q0 n9 e9
        split at e9
        · rename_i y3 hy3
          split at e9
          · rename_i dsc hdsc
            cases e9
            obtain ⟨rfl, rfl⟩ := it_some hl
            obtain ⟨k1, k2, k3, k4, -⟩ := ivcall (iv18 hs)
            simp only [Int.toNat_natCast] at k1 k2 k3 k4
            cases k3
            cases hy2.symm.trans hy3
            obtain ⟨b, as', e3, e4, e5⟩ := k4 trivial
            have hw := sw_of sw_rall ho hk
            simp only [sw_r] at hw
            split at hw
            · rename_i z; subst z; exact absurd (List.getElem?_eq_some_iff.mp hy2).1 (by rw [sm_len.2]; decide)
            · split at hw
              · rename_i z; subst z; exact absurd (List.getElem?_eq_some_iff.mp hy2).1 (by rw [sm_len.2]; decide)
              · rw [hy2] at hw
                simp only [Bool.and_eq_true] at hw
                obtain ⟨hlt, hw⟩ := hw
                have hlt := of_decide_eq_true hlt
                obtain ⟨pq, w1, w2, w3, w4, w5, w6, w7⟩ := sw_word hy2 hlt
                simp only [sm_static, Int.toNat_natCast, w1] at hst
                rw [Bool.and_eq_true] at hst
                have hp3 := eq_of_beq hst.1
                have hp4 : pq.2.2.2.1 ≠ 99999 := by have := hst.2; simpa using this
                obtain ⟨w8, w9⟩ := w4 hp3
                have w9 := w9 hp4
                have hlen : as'.length = dsc.parameters.length := by
                  have := congrArg List.length e3
                  simp at this
                  omega
                have hstack : st.map (wd_v E) = (as'.map (wd_v E)).reverse ++ .ref (wd_ad E b) :: (st.drop (dsc.parameters.length + 1)).map (wd_v E) := by
                  have z1 : st = (Value.ref b :: as').reverse ++ st.drop (dsc.parameters.length + 1) := by
                    rw [← e3, List.reverse_reverse, List.take_append_drop]
                  calc st.map (wd_v E) = ((Value.ref b :: as').reverse ++ st.drop (dsc.parameters.length + 1)).map (wd_v E) := by rw [← z1]
                    _ = _ := by simp [wd_v]
                have hrecv : ∃ cellB : Cell, H[wd_ad E b]? = some cellB ∧ cellB.vm.isStatics = false ∧ s.vm.findClass y2.1.cls = some cellB.cls := by
                  rw [hy2] at e5
                  simp only [Option.map_some, Option.getD_some] at e5
                  have h14 : y2.2.2.2.2 < 14 := of_decide_eq_true (List.all_eq_true.mp sm_own14 y2 (List.mem_of_getElem? hy2))
                  rcases fl_kinds2 b (Nat.lt_of_lt_of_le e4 S.1.1) with ⟨z1, z2⟩ | z1
                  · obtain ⟨rq, hq⟩ : ∃ rq, vwCl[(fl_lay b).1]? = some rq := ⟨_, List.getElem?_eq_getElem (by simpa using z1)⟩
                    have z3 := sm_own11 _ z1
                    rw [hq, e5, ho2] at z3
                    have z4 : y2.1.cls = rq.1 := by simpa using z3
                    rw [wd_adlt S.1.1 e4, z4]
                    exact va_recv S.1.2.2.1 S.1.2.1 hq (by rw [wd_at e4, wd_c_obj (ci := (fl_lay b).1) (N := (fl_lay b).2) rfl (by omega)])
                  · omega
                have hpar : (parseMethodDescriptor y2.1.desc).map (fun d => d.parameters.length) = some dsc.parameters.length := by rw [hdsc]; rfl
                have hpreV : PreV s H y2.1.cls (wd_ad E b) (sv_P E g cA n h (st.take (dsc.parameters.length + 1)).reverse) (as'.map (wd_v E)) := ⟨sv_blind, hrecv, fun U hU hW => by have := hpre U hU hW; rw [e3] at this ⊢; exact this⟩
                have hrs : (((st.drop (dsc.parameters.length + 1)).map (wd_v E)).map (fun v => v.category)).sum ≤ 8 := by rw [wd_cat]; exact k2
                split at hw
                · exact sv_call S (va_runV (As := as'.map (wd_v E)) (rest := (st.drop (dsc.parameters.length + 1)).map (wd_v E)) (g := F0 m pc lsA (st.map (wd_v E))) hfix hM (cwV dsc.parameters.length hts (fun w hw9 => by
                    rcases List.mem_append.mp hw9 with z | z
                    · have : w ∈ sm_tbl := by
                        simp only [List.mem_cons, List.not_mem_nil, or_false] at z
                        rcases z with rfl | rfl | rfl | rfl
                        · exact sw_tbl hw
                        · exact w8
                        · exact w9
                        · exact w3
                      exact ⟨this, good_of_word (List.mem_filter.mp this).2⟩
                    · have : w ∈ sm_tbl := by
                        rcases List.mem_cons.mp z with rfl | z
                        · exact w2
                        · exact z
                      exact ⟨this, good_of_word (List.mem_filter.mp this).2⟩) rfl rfl rfl ⟨rfl, w6.1, w6.2, hpar⟩ hroom) hpreV rfl (by simpa using hlen) hL.1 hstack (lv_room hrs) hd hcells) (fun cA' H1 locs1 S1 => kk' cA' H1 locs1 S1 rfl)
                · exact sv_call S (va_runVN (As := as'.map (wd_v E)) (rest := (st.drop (dsc.parameters.length + 1)).map (wd_v E)) (g := F0 m pc lsA (st.map (wd_v E))) hfix hM ⟨va_cnB dsc.parameters.length hts (fun w hw9 => by
                    have : w ∈ sm_tbl := by
                      rcases List.mem_cons.mp hw9 with rfl | z
                      · exact w2
                      · exact z
                    exact ⟨this, good_of_word (List.mem_filter.mp this).2⟩) rfl rfl rfl (hT.2.2.1 _ (sw_nestM hw)) (hts _ w3) ⟨w6.1, w6.2, hpar⟩ hroom, hts _ w8, hts _ w9⟩ hpreV rfl (by simpa using hlen) hL.1 hstack (lv_room hrs) hd hcells) (fun cA' H1 locs1 S1 => kk' cA' H1 locs1 S1 rfl)
          · cases e9
        · cases e9
      · cases hl
  case invokestatic k =>
    simp only [sm_low, sm_lower] at hl
    split at hl
    · rename_i q0 n9 e9
      split at e9
      · cases e9
        obtain ⟨rfl, rfl⟩ := it_some hl
        exact absurd hop.2 (by simp)
      · rename_i m3 ps nest hne hk
        split at e9
        · rename_i y3 hy3
          split at e9
          · rename_i dsc hdsc
            cases e9
            obtain ⟨rfl, rfl⟩ := it_some hl
            obtain ⟨k1, k2, k3, -, -⟩ := ivcall (iv19 hs)
            simp only [Int.toNat_natCast, Nat.add_zero] at k1 k2 k3
            cases k3
            cases hy2.symm.trans hy3
            have hw := sw_of sw_rall ho hk
            simp only [sw_r] at hw
            split at hw
            · rename_i z; subst z; exact absurd (List.getElem?_eq_some_iff.mp hy2).1 (by rw [sm_len.2]; decide)
            · by_cases hz9 : True
              · rw [hy2] at hw
                simp only [Bool.and_eq_true] at hw
                obtain ⟨hlt, hw⟩ := hw
                have hlt := of_decide_eq_true hlt
                obtain ⟨pq, w1, w2, w3, w4, w5, w6, w7⟩ := sw_word hy2 hlt
                simp only [sm_static, Int.toNat_natCast, w1] at hst
                have hp3 : pq.2.2.1 ≠ 99999 := by simpa using hst
                have w8 := w5 hp3
                have hlen : ((st.take dsc.parameters.length).reverse.map (wd_v E)).length = dsc.parameters.length := by
                  simp
                  omega
                have hstack : st.map (wd_v E) = ((st.take dsc.parameters.length).reverse.map (wd_v E)).reverse ++ (st.drop dsc.parameters.length).map (wd_v E) := by
                  rw [← List.map_reverse, List.reverse_reverse, ← List.map_append, List.take_append_drop]
                have hpar : (parseMethodDescriptor y2.1.desc).map (fun d => d.parameters.length) = some dsc.parameters.length := by rw [hdsc]; rfl
                have hrs : (((st.drop dsc.parameters.length).map (wd_v E)).map (fun v => v.category)).sum ≤ 8 := by rw [wd_cat]; exact k2
                split at hw
                · exact sv_call S (va_runS (As := (st.take dsc.parameters.length).reverse.map (wd_v E)) (rest := (st.drop dsc.parameters.length).map (wd_v E)) (g := F0 m pc lsA (st.map (wd_v E))) hfix hM (va_cwS dsc.parameters.length hts (fun w hw9 => by
                    rcases List.mem_append.mp hw9 with z | z
                    · have : w ∈ sm_tbl := by
                        simp only [List.mem_cons, List.not_mem_nil, or_false] at z
                        rcases z with rfl | rfl | rfl
                        · exact sw_tbl hw
                        · exact w8
                        · exact w3
                      exact ⟨this, good_of_word (List.mem_filter.mp this).2⟩
                    · have : w ∈ sm_tbl := by
                        rcases List.mem_cons.mp z with rfl | z
                        · exact w2
                        · exact z
                      exact ⟨this, good_of_word (List.mem_filter.mp this).2⟩) rfl rfl rfl ⟨w6.1, w6.2, hpar⟩ hroom) ⟨sv_blind, hpre⟩ rfl hlen hL.1 hstack (lv_room hrs) hd hcells) (fun cA' H1 locs1 S1 => kk' cA' H1 locs1 S1 rfl)
                · exact sv_call S (va_runSN (As := (st.take dsc.parameters.length).reverse.map (wd_v E)) (rest := (st.drop dsc.parameters.length).map (wd_v E)) (g := F0 m pc lsA (st.map (wd_v E))) hfix hM ⟨va_cnB dsc.parameters.length hts (fun w hw9 => by
                    have : w ∈ sm_tbl := by
                      rcases List.mem_cons.mp hw9 with rfl | z
                      · exact w2
                      · exact z
                    exact ⟨this, good_of_word (List.mem_filter.mp this).2⟩) rfl rfl rfl (hT.2.2.1 _ (sw_nestM hw)) (hts _ w3) ⟨w6.1, w6.2, hpar⟩ hroom, hts _ w8, trivial⟩ ⟨sv_blind, hpre⟩ rfl hlen hL.1 hstack (lv_room hrs) hd hcells) (fun cA' H1 locs1 S1 => kk' cA' H1 locs1 S1 rfl)
              · exact absurd trivial hz9
          · cases e9
        · cases e9
      · cases e9
    · cases hl
  case invokespecial k =>
    simp only [sm_low, sm_lower] at hl
    split at hl
    · rename_i q0 n9 e9
      split at e9
      · cases e9
        obtain ⟨rfl, rfl⟩ := it_some hl
        exact absurd hop.2 (by simp)
      · rename_i m3 ps nest hne hk
        split at e9
        · rename_i y3 hy3
          split at e9
          · rename_i dsc hdsc
            cases e9
            obtain ⟨rfl, rfl⟩ := it_some hl
            obtain ⟨k1, k2, k3, -, k4⟩ := ivcall (iv20 hs)
            simp only [Int.toNat_natCast] at k1 k2 k3 k4
            cases k3
            cases hy2.symm.trans hy3
            obtain ⟨b, as', e3⟩ := k4 trivial trivial
            have hw := sw_of sw_rall ho hk
            simp only [sw_r] at hw
            split at hw
            · rename_i z; subst z; exact absurd (List.getElem?_eq_some_iff.mp hy2).1 (by rw [sm_len.2]; decide)
            · split at hw
              · rename_i z; subst z; exact absurd (List.getElem?_eq_some_iff.mp hy2).1 (by rw [sm_len.2]; decide)
              · rw [hy2] at hw
                simp only [Bool.and_eq_true] at hw
                obtain ⟨hlt, hw⟩ := hw
                have hlt := of_decide_eq_true hlt
                obtain ⟨pq, w1, w2, w3, w4, w5, w6, w7⟩ := sw_word hy2 hlt
                simp only [sm_static, Int.toNat_natCast, w1, hy2] at hst
                simp only [Bool.and_eq_true] at hst
                have hp3 := eq_of_beq hst.1.1
                have hnm2 : y2.1.name = "<init>" := eq_of_beq hst.1.2
                have hrt : y2.2.2.2.1 = none := eq_of_beq hst.2
                have w8 := (w4 hp3).1
                have hlen : (as'.map (wd_v E)).length = dsc.parameters.length := by
                  have := congrArg List.length e3
                  simp at this
                  simp
                  omega
                have hstack : st.map (wd_v E) = (as'.map (wd_v E)).reverse ++ .ref (wd_ad E b) :: (st.drop (dsc.parameters.length + 1)).map (wd_v E) := by
                  have z1 : st = (Value.ref b :: as').reverse ++ st.drop (dsc.parameters.length + 1) := by
                    rw [← e3, List.reverse_reverse, List.take_append_drop]
                  calc st.map (wd_v E) = ((Value.ref b :: as').reverse ++ st.drop (dsc.parameters.length + 1)).map (wd_v E) := by rw [← z1]
                    _ = _ := by simp [wd_v]
                have hpar : (parseMethodDescriptor y2.1.desc).map (fun d => d.parameters.length) = some dsc.parameters.length := by rw [hdsc]; rfl
                have hpreS : PreS s H (sv_P E g cA n h (st.take (dsc.parameters.length + 1)).reverse) (.ref (wd_ad E b) :: as'.map (wd_v E)) := ⟨sv_blind, fun U hU hW => by have := hpre U hU hW; rw [e3] at this ⊢; exact this⟩
                have hrs : (((st.drop (dsc.parameters.length + 1)).map (wd_v E)).map (fun v => v.category)).sum ≤ 8 := by rw [wd_cat]; exact k2
                have hws : sv_ws y2 = Cond.code y2.1 y2.2.1 y2.2.2.1 none :: sm_tbl := by rw [← hrt]; rfl
                have hG : GoodIn sm_tbl (sv_ws y2) := fun w hw9 => by
                    have : w ∈ sm_tbl := by
                      rcases List.mem_cons.mp hw9 with rfl | z
                      · exact w2
                      · exact z
                    exact ⟨this, good_of_word (List.mem_filter.mp this).2⟩
                split at hw
                · exact sv_call S (va_runI (As := as'.map (wd_v E)) (rest := (st.drop (dsc.parameters.length + 1)).map (wd_v E)) (g := F0 m pc lsA (st.map (wd_v E))) hfix hM (cwI dsc.parameters.length hts hG hws rfl rfl (hts _ w3) (hts _ (sw_tbl hw)) (hts _ w8) hnm2 ⟨w6.1, w6.2, hpar⟩ hroom) hpreS rfl hlen hL.1 hstack (lv_room hrs) hd hcells) (fun cA' H1 locs1 S1 => kk' cA' H1 locs1 S1 rfl)
                · exact sv_call S (va_runIN (As := as'.map (wd_v E)) (rest := (st.drop (dsc.parameters.length + 1)).map (wd_v E)) (g := F0 m pc lsA (st.map (wd_v E))) hfix hM ⟨va_cnB dsc.parameters.length hts hG hws rfl rfl (hT.2.2.1 _ (sw_nestM hw)) (hts _ w3) ⟨w6.1, w6.2, hpar⟩ hroom, hnm2, hts _ w8⟩ hpreS rfl hlen hL.1 hstack (lv_room hrs) hd hcells) (fun cA' H1 locs1 S1 => kk' cA' H1 locs1 S1 rfl)
          · cases e9
        · cases e9
      · cases e9
    · cases hl
  all_goals
    exfalso
    have z2 := (low_kind hl).2 hop
    cases z2
end SIM
set_option maxHeartbeats 4000000 in
/-- the machine does what the flat machine does -/
theorem fl_sim (l : Launch) : ∀ (f d mi : Nat) (pc : Nat) (ls : List (Option Value)) (st : List Value) (h : Hp) (n : Nat) (v : Option Value) (h' : Hp) (n' : Nat), fl_run f d mi (pc, ls, st, h, n) = some (v, h', n') →
    ∀ {p : Program} {e : Env} {R : Room} {s : State} {m : MethodId} {args : Array Value} {below : List Frame} {meth : Method} {c : Code} {H : Heap} {locs : List Loc} {Q : State → Prop} {E : wd_E} {g : Nat → Nat → Int32} {cA : Nat → ClassId} {n0 : Nat} {y : sm_M} {lsA : Array Slot},
    Ctx E g p s m args meth c y → sm_ms[mi]? = some y → Sb E g cA n h s H locs → Lv E lsA y.2.2.1 ls → n0 ≤ n → (n' - n0 ≤ R.cells ∧ wd_sz n' - wd_sz n0 ≤ R.slots ∧ d + 1 ≤ R.frames ∧ 60 * (d + 1) ≤ R.locals) →
    (∀ (pc : Nat) (q : Smi) (ls : List (Option Value)) (st : List Value) (cA : Nat → ClassId) (H' : Heap) (locs' : List Loc) (lsA' : Array Slot), fl_code mi pc = some q → fl_step q (pc, ls, st, h', n') = some (.inr (.inr v)) → Sb E g cA n' h' s H' locs' → W p l e R s m args below meth c H' locs' (n' - n0) (wd_sz n' - wd_sz n0) Q (F0 m pc lsA' (st.map (wd_v E)))) →
    W p l e R s m args below meth c H locs (n - n0) (wd_sz n - wd_sz n0) Q (F0 m pc lsA (st.map (wd_v E))) := by
  intro f
  induction f with
  | zero => intro d mi pc ls st h n v h' n' hrun; cases hrun
  | succ f ih =>
    intro d mi pc ls st h n v h' n' hrun p e R s m args below meth c H locs Q E g cA n0 y lsA C hy S hL hn0 hR hret
    have hrun0 := hrun
    unfold fl_run at hrun
    simp only at hrun
    cases hc : fl_code mi pc with
    | none => rw [hc] at hrun; cases hrun
    | some q =>
      rw [hc] at hrun
      simp only at hrun
      cases hs : fl_step q (pc, ls, st, h, n) with
      | none => rw [hs] at hrun; cases hrun
      | some r =>
        rw [hs] at hrun
        rcases r with ⟨pc1, ls1, st1, h1, n1⟩ | ⟨m2, as, rest, nx⟩ | v1
        · simp only at hrun
          have m1 : n ≤ n1 := fl_step_mono hs
          have m2 : n1 ≤ n' := fl_mono _ _ _ _ _ _ _ hrun
          have m3 := wd_sz_le m2
          exact st_step C hy S hL hc hs hn0 ⟨by omega, by omega, by omega, by omega⟩ (fun lsA' cA' H' locs' hL' S' => ih d mi pc1 ls1 st1 h1 n1 v h' n' hrun C hy S' hL' (Nat.le_trans hn0 m1) hR hret)
        · simp only at hrun
          cases d with
          | zero => cases hrun
          | succ d =>
            simp only at hrun
            cases hy2 : sm_ms[m2]? with
            | none => rw [hy2] at hrun; cases hrun
            | some y2 =>
              rw [hy2] at hrun
              simp only at hrun
              by_cases hlen : (fl_args as).length ≤ y2.2.2.1
              · rw [if_pos hlen] at hrun
                cases hr2 : fl_run f d m2 (0, fl_enter y2.2.2.1 as, [], h, n) with
                | none => rw [hr2] at hrun; cases hrun
                | some w =>
                  obtain ⟨v2, h2, n2⟩ := w
                  rw [hr2] at hrun
                  simp only at hrun
                  have m1 : n ≤ n2 := fl_mono _ _ _ _ _ _ _ hr2
                  have m2' : n2 ≤ n' := fl_mono _ _ _ _ _ _ _ hrun
                  have m3 := wd_sz_le m2'
                  have m4 := wd_sz_le m1
                  have m5 := wd_sz_le hn0
                  have hlt : m2 < 214 := call_lt (cd_static hy hc) hs
                  have hM : Met l y2.1 (sv_ws y2) (rm_d d (n2 - n) (wd_sz n2 - wd_sz n)) (sv_P E g cA n h as) (sv_Q E g v2 h2 n2) (n2 - n) (wd_sz n2 - wd_sz n) (fun q => E.1 ≤ q) := by
                    obtain ⟨pq, w1, w2, w3, w4, w5, w6, w7⟩ := sw_word hy2 hlt
                    refine Met.ofW (cc := y2.2.1) (maxL := y2.2.2.1) (ret := y2.2.2.2.1) w7 rfl ?_
                    intro p e s m args below meth c s₁ B hml hP
                    obtain ⟨hargs, hW, hT, hbs⟩ := hP
                    subst hargs
                    have hts := atoms_spec (ws := sv_ws y2) B.pre
                    have C2 : Ctx E g p s m (as.map (wd_v E)).toArray meth c y2 := ⟨B.exec, B.bytes, hml, B.returns, findClass_of_methodNamed B.named, fun w hw => hts w (List.mem_cons_of_mem _ hw), hT, B.notSynchronized, hbs, fun z => (name_of_methodNamed B.named B.method).1.trans z⟩
                    rw [lg_entry_eq]
                    have S2 : Sb E g cA n h s s.heap [] := ⟨hW, va_S.rf⟩
                    have key := ih d m2 0 (fl_enter y2.2.2.1 as) [] h n v2 h2 n2 hr2 (R := rm_d d (n2 - n) (wd_sz n2 - wd_sz n)) (below := below) (e := e) (Q := MQ below (sv_Q E g v2 h2 n2) (as.map (wd_v E)).toArray s (n2 - n) (wd_sz n2 - wd_sz n) (fun q => E.1 ≤ q)) C2 hy2 S2 (Lv.entry as hlen) (Nat.le_refl n) ⟨Nat.le_refl _, Nat.le_refl _, Nat.le_refl _, Nat.le_refl _⟩ (fun pc q ls st cA' H' locs' lsA' hc' hs' S' => st_ret C2 hy2 S' hc' hs')
                    rw [Nat.sub_self, Nat.sub_self] at key
                    exact key
                  have e1 : n - n0 + (n2 - n) = n2 - n0 := by omega
                  have e2 : wd_sz n - wd_sz n0 + (wd_sz n2 - wd_sz n) = wd_sz n2 - wd_sz n0 := by omega
                  refine st_call C hy hy2 S hL hc hs hM ⟨by omega, by omega, by omega, by omega⟩ (fun cA' H1 locs1 S1 => ?_)
                  rw [e1, e2]
                  exact ih (d + 1) mi nx ls (v2.toList ++ rest) h2 n2 v h' n' hrun C hy S1 hL (Nat.le_trans hn0 m1) hR hret
              · rw [if_neg hlen] at hrun; cases hrun
        · simp only at hrun
          cases hrun
          exact hret pc q ls st cA H locs lsA hc hs S
