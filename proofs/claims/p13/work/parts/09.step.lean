/-! EVERY INTERNAL STEP -/
theorem it_some {α : Type} {P : Prop} [Decidable P] {a b : α} (h : (if P then some a else none) = some b) : P ∧ a = b := by
  split at h
  · rename_i p
    exact ⟨p, Option.some.inj h⟩
  · cases h
theorem wd_sz_le {a b : Nat} (h : a ≤ b) : wd_sz a ≤ wd_sz b := by
  induction b with
  | zero => rw [Nat.le_zero.mp h]; exact Nat.le_refl _
  | succ b ih =>
    rcases Nat.lt_or_ge a (b + 1) with q | q
    · exact Nat.le_trans (ih (by omega)) (Nat.le_add_right _ _)
    · rw [show a = b + 1 by omega]; exact Nat.le_refl _
theorem fl_kinds : ∀ b, b < fl_tot → ((fl_lay b).1 < 22 ∨ (fl_lay b).1 = 30 ∨ (fl_lay b).1 = 33 ∨ (fl_lay b).1 = 37 ∨ (fl_lay b).1 = 38) ∧ (fl_lay b).2 ≤ 5000 := by decide +kernel
theorem stI {E : wd_E} {lsA lsA' : Array Slot} {nL i : Nat} {ls ls2 : List (Option Value)} {v : Value} (hL : Lv E lsA nL ls) (hc : v.category = 1) (e : fl_store ls i v = some ls2) : i < nL ∧ (lv_has lsA' nL ((i, wd_v E v) :: (lv_al E ls).filter (fun q => !(q.1 == i) && !(q.1 + 1 == i && q.2.category == 2))) → Lv E lsA' nL ls2) := by
  have key : fl_nolong ls i = true ∧ i < ls.length ∧ ls2 = ls.set i (some v) := by
    unfold fl_store at e
    split at e
    · rename_i h1
      refine ⟨h1, ?_⟩
      split at e
      · exact absurd hc (by simp [Value.category])
      all_goals first
        | (have z := it_some e; exact ⟨z.1, z.2.symm⟩)
        | (cases e)
    · cases e
  obtain ⟨k1, k2, k3⟩ := key
  subst k3
  refine ⟨by rw [hL.2.2.1] at k2; exact k2, fun h' => ⟨h'.1, h'.2.1, by simpa using hL.2.2.1, fun j w hj => ?_⟩⟩
  by_cases hji : j = i
  · subst hji
    rw [List.getElem?_set_self k2] at hj
    cases hj
    exact h'.2.2 _ List.mem_cons_self
  · rw [List.getElem?_set_ne (Ne.symm hji)] at hj
    refine h'.2.2 (j, wd_v E w) (List.mem_cons_of_mem _ (List.mem_filter.mpr ⟨lv_al_mem.mpr ⟨w, hj, rfl⟩, ?_⟩))
    simp only [Bool.and_eq_true, Bool.not_eq_true', beq_eq_false_iff_ne, ne_eq, Bool.and_eq_false_iff]
    refine ⟨hji, ?_⟩
    by_cases hj1 : j + 1 = i
    · right
      subst hj1
      unfold fl_nolong at k1
      simp only [hj] at k1
      rw [wd_v_cat, eq_of_beq k1]
      decide
    · exact Or.inl hj1
theorem stJ {E : wd_E} {lsA lsA' : Array Slot} {nL i : Nat} {ls ls2 : List (Option Value)} {x : Int64} (hL : Lv E lsA nL ls) (e : fl_store ls i (.long x) = some ls2) : i + 1 < nL ∧ (lv_has lsA' nL ((i, Value.long x) :: (lv_al E ls).filter (fun q => !(q.1 == i) && (!(q.1 == i + 1) && !(q.1 + 1 == i && q.2.category == 2)))) → Lv E lsA' nL ls2) := by
  have key : fl_nolong ls i = true ∧ i + 1 < ls.length ∧ ls2 = (ls.set i (some (.long x))).set (i + 1) none := by
    unfold fl_store at e
    split at e
    · rename_i h1
      have z := it_some e
      exact ⟨h1, z.1, z.2.symm⟩
    · cases e
  obtain ⟨k1, k2, k3⟩ := key
  subst k3
  refine ⟨by rw [hL.2.2.1] at k2; exact k2, fun h' => ⟨h'.1, h'.2.1, by simpa using hL.2.2.1, fun j w hj => ?_⟩⟩
  by_cases hj1 : j = i + 1
  · subst hj1
    rw [List.getElem?_set_self (by simpa using k2)] at hj
    cases hj
  · rw [List.getElem?_set_ne (Ne.symm hj1)] at hj
    by_cases hji : j = i
    · subst hji
      rw [List.getElem?_set_self (by omega)] at hj
      cases hj
      exact h'.2.2 _ List.mem_cons_self
    · rw [List.getElem?_set_ne (Ne.symm hji)] at hj
      refine h'.2.2 (j, wd_v E w) (List.mem_cons_of_mem _ (List.mem_filter.mpr ⟨lv_al_mem.mpr ⟨w, hj, rfl⟩, ?_⟩))
      simp only [Bool.and_eq_true, Bool.not_eq_true', beq_eq_false_iff_ne, ne_eq, Bool.and_eq_false_iff]
      refine ⟨hji, hj1, ?_⟩
      by_cases hj2 : j + 1 = i
      · right
        subst hj2
        unfold fl_nolong at k1
        simp only [hj] at k1
        rw [wd_v_cat, eq_of_beq k1]
        decide
      · exact Or.inl hj2
section STEP
variable {p : Program} {l : Launch} {e : Env} {R : Room} {s : State} {m : MethodId} {args : Array Value} {below : List Frame} {meth : Method} {c : Code} {H : Heap} {locs : List Loc} {Q : State → Prop}
variable {E : wd_E} {g : Nat → Nat → Int32} {cA : Nat → ClassId} {n n' n0 mi : Nat} {h h' : Hp} {y : sm_M} {pc pc' : Nat} {lsA : Array Slot} {ls ls' : List (Option Value)} {st st' : List Value} {q : Smi}
set_option maxHeartbeats 4000000 in
theorem st_step (C : Ctx E g p s m args meth c y) (hy : sm_ms[mi]? = some y) (S : Sb E g cA n h s H locs) (hL : Lv E lsA y.2.2.1 ls) (hc : fl_code mi pc = some q) (hs : fl_step q (pc, ls, st, h, n) = some (.inl (pc', ls', st', h', n'))) (hn0 : n0 ≤ n) (hR : n' - n0 ≤ R.cells ∧ wd_sz n' - wd_sz n0 ≤ R.slots ∧ 1 ≤ R.frames ∧ 60 ≤ R.locals)
    (kk : ∀ (lsA' : Array Slot) (cA' : Nat → ClassId) (H' : Heap) (locs' : List Loc), Lv E lsA' y.2.2.1 ls' → Sb E g cA' n' h' s H' locs' → W p l e R s m args below meth c H' locs' (n' - n0) (wd_sz n' - wd_sz n0) Q (F0 m pc' lsA' (st'.map (wd_v E)))) :
    W p l e R s m args below meth c H locs (n - n0) (wd_sz n - wd_sz n0) Q (F0 m pc lsA (st.map (wd_v E))) := by
  obtain ⟨i, len, hd, hl⟩ := cd_dec hy hc
  have ho := sm_ownof hy
  have hst := cd_static hy hc
  obtain ⟨hx, hb, hml, hr, hown, hts, hT, hlocks, hbs, hnm⟩ := id C
  cases i
  case iconst v =>
    simp only [sm_low, sm_lower] at hl
    obtain ⟨rfl, rfl⟩ := it_some hl
    cases iv1 hs
    exact lv_iconst hx hb hd rfl (kk _ _ _ _ hL S)
  case bipush v =>
    simp only [sm_low, sm_lower] at hl
    split at hl
    · rename_i q0 n9 e9
      obtain ⟨h9, e10⟩ := it_some e9
      cases e10
      obtain ⟨rfl, rfl⟩ := it_some hl
      cases iv1 hs
      exact lv_bipush hx hb hd h9 (kk _ _ _ _ hL S)
    · cases hl
  case sipush v =>
    simp only [sm_low, sm_lower] at hl
    split at hl
    · rename_i q0 n9 e9
      obtain ⟨h9, e10⟩ := it_some e9
      cases e10
      obtain ⟨rfl, rfl⟩ := it_some hl
      cases iv1 hs
      exact lv_sipush hx hb hd h9 (kk _ _ _ _ hL S)
    · cases hl
  case ldc k =>
    simp only [sm_low, sm_lower] at hl
    cases hk : sm_at sm_rk y.2.2.2.2 k with
    | none => rw [hk] at hl; cases hl
    | some z =>
      obtain ⟨v, ps⟩ := z
      rw [hk] at hl
      simp only at hl
      obtain ⟨rfl, rfl⟩ := it_some hl
      cases iv1 hs
      exact lv_ldc hx hb hown (hts _ (sw_tbl (sw_of sw_kall ho hk))) hd (kk _ _ _ _ hL S)
  case ldc_w k =>
    simp only [sm_low, sm_lower] at hl
    cases hk : sm_at sm_rk y.2.2.2.2 k with
    | none => rw [hk] at hl; cases hl
    | some z =>
      obtain ⟨v, ps⟩ := z
      rw [hk] at hl
      simp only at hl
      obtain ⟨rfl, rfl⟩ := it_some hl
      cases iv1 hs
      exact lv_ldcw hx hb hown (hts _ (sw_tbl (sw_of sw_kall ho hk))) hd (kk _ _ _ _ hL S)
  case ldc2_w k =>
    simp only [sm_low, sm_lower] at hl
    cases hk : sm_at sm_rl y.2.2.2.2 k with
    | none => rw [hk] at hl; cases hl
    | some z =>
      obtain ⟨v, ps⟩ := z
      rw [hk] at hl
      simp only at hl
      obtain ⟨rfl, rfl⟩ := it_some hl
      cases iv39 hs
      exact lv_ldc2 hx hb hown (hts _ (sw_tbl (sw_of sw_lall ho hk))) hd (kk _ _ _ _ hL S)
  case lconst k =>
    simp only [sm_low, sm_lower] at hl
    obtain ⟨rfl, rfl⟩ := it_some hl
    cases iv39 hs
    exact lv_lconst hx hb hd rfl (kk _ _ _ _ hL S)
  case iload k =>
    simp only [sm_low, sm_lower] at hl
    obtain ⟨rfl, rfl⟩ := it_some hl
    obtain ⟨v, e1, e2, e3⟩ := iv2 hs
    cases e3
    obtain ⟨x, rfl⟩ := is_int e2
    rw [Int.toNat_natCast] at e1
    exact lv_iload hx hb hd (hL.2.2.2 _ _ e1) (kk _ _ _ _ hL S)
  case iload_n k =>
    simp only [sm_low, sm_lower] at hl
    obtain ⟨rfl, rfl⟩ := it_some hl
    obtain ⟨v, e1, e2, e3⟩ := iv2 hs
    cases e3
    obtain ⟨x, rfl⟩ := is_int e2
    rw [Int.toNat_natCast] at e1
    exact lv_iload_n hx hb hd rfl (hL.2.2.2 _ _ e1) (kk _ _ _ _ hL S)
  case lload k =>
    simp only [sm_low, sm_lower] at hl
    obtain ⟨rfl, rfl⟩ := it_some hl
    obtain ⟨v, e1, e2, e3⟩ := iv2 hs
    cases e3
    obtain ⟨x, rfl⟩ := is_long e2
    rw [Int.toNat_natCast] at e1
    exact lv_lload hx hb hd (hL.2.2.2 _ _ e1) (kk _ _ _ _ hL S)
  case lload_n k =>
    simp only [sm_low, sm_lower] at hl
    obtain ⟨rfl, rfl⟩ := it_some hl
    obtain ⟨v, e1, e2, e3⟩ := iv2 hs
    cases e3
    obtain ⟨x, rfl⟩ := is_long e2
    rw [Int.toNat_natCast] at e1
    exact lv_lload_n hx hb hd rfl (hL.2.2.2 _ _ e1) (kk _ _ _ _ hL S)
  case aload k =>
    simp only [sm_low, sm_lower] at hl
    obtain ⟨rfl, rfl⟩ := it_some hl
    obtain ⟨v, e1, e2, e3⟩ := iv2 hs
    cases e3
    obtain ⟨b, rfl⟩ := is_ref e2
    rw [Int.toNat_natCast] at e1
    cases b with
    | none => exact lv_aloadN hx hb hd (hL.2.2.2 _ _ e1) (kk _ _ _ _ hL S)
    | some b => exact lv_aload hx hb hd (hL.2.2.2 _ _ e1) (kk _ _ _ _ hL S)
  case aload_n k =>
    simp only [sm_low, sm_lower] at hl
    obtain ⟨rfl, rfl⟩ := it_some hl
    obtain ⟨v, e1, e2, e3⟩ := iv2 hs
    cases e3
    obtain ⟨b, rfl⟩ := is_ref e2
    rw [Int.toNat_natCast] at e1
    cases b with
    | none => exact lv_aload_nN hx hb hd rfl (hL.2.2.2 _ _ e1) (kk _ _ _ _ hL S)
    | some b => exact lv_aload_n hx hb hd rfl (hL.2.2.2 _ _ e1) (kk _ _ _ _ hL S)
  case istore k =>
    simp only [sm_low, sm_lower] at hl
    obtain ⟨rfl, rfl⟩ := it_some hl
    obtain ⟨v, st2, ls2, rfl, e2, e3, e4⟩ := iv3 hs
    cases e4
    obtain ⟨x, rfl⟩ := is_int e2
    rw [Int.toNat_natCast] at e3
    exact lv_istore hx hb hd hL.has (stI (lsA' := lsA) hL rfl e3).1 rfl (fun lsA' z => kk _ _ _ _ ((stI hL rfl e3).2 z) S)
  case lstore k =>
    simp only [sm_low, sm_lower] at hl
    obtain ⟨rfl, rfl⟩ := it_some hl
    obtain ⟨v, st2, ls2, rfl, e2, e3, e4⟩ := iv3 hs
    cases e4
    obtain ⟨x, rfl⟩ := is_long e2
    rw [Int.toNat_natCast] at e3
    exact lv_lstore hx hb hd hL.has (stJ (lsA' := lsA) hL e3).1 rfl (fun lsA' z => kk _ _ _ _ ((stJ hL e3).2 z) S)
  case astore k =>
    simp only [sm_low, sm_lower] at hl
    obtain ⟨rfl, rfl⟩ := it_some hl
    obtain ⟨v, st3, ls2, rfl, e2, e3, e4⟩ := iv3 hs
    cases e4
    obtain ⟨b, rfl⟩ := is_ref e2
    rw [Int.toNat_natCast] at e3
    cases b with
    | none => exact lv_astoreN hx hb hd hL.has (stI (lsA' := lsA) hL rfl e3).1 rfl (fun lsA' z => kk _ _ _ _ ((stI hL rfl e3).2 z) S)
    | some b => exact lv_astore hx hb hd hL.has (stI (lsA' := lsA) hL rfl e3).1 rfl (fun lsA' z => kk _ _ _ _ ((stI hL rfl e3).2 z) S)
  case istore_n k =>
    simp only [sm_low, sm_lower] at hl
    obtain ⟨rfl, rfl⟩ := it_some hl
    obtain ⟨v, st2, ls2, rfl, e2, e3, e4⟩ := iv3 hs
    cases e4
    obtain ⟨x, rfl⟩ := is_int e2
    rw [Int.toNat_natCast] at e3
    exact lv_istore_n hx hb hd rfl hL.has (stI (lsA' := lsA) hL rfl e3).1 rfl (fun lsA' z => kk _ _ _ _ ((stI hL rfl e3).2 z) S)
  case lstore_n k =>
    simp only [sm_low, sm_lower] at hl
    obtain ⟨rfl, rfl⟩ := it_some hl
    obtain ⟨v, st2, ls2, rfl, e2, e3, e4⟩ := iv3 hs
    cases e4
    obtain ⟨x, rfl⟩ := is_long e2
    rw [Int.toNat_natCast] at e3
    exact lv_lstore_n hx hb hd rfl hL.has (stJ (lsA' := lsA) hL e3).1 rfl (fun lsA' z => kk _ _ _ _ ((stJ hL e3).2 z) S)
  case astore_n k =>
    simp only [sm_low, sm_lower] at hl
    obtain ⟨rfl, rfl⟩ := it_some hl
    obtain ⟨v, st3, ls2, rfl, e2, e3, e4⟩ := iv3 hs
    cases e4
    obtain ⟨b, rfl⟩ := is_ref e2
    rw [Int.toNat_natCast] at e3
    cases b with
    | none => exact lv_astore_nN hx hb hd rfl hL.has (stI (lsA' := lsA) hL rfl e3).1 rfl (fun lsA' z => kk _ _ _ _ ((stI hL rfl e3).2 z) S)
    | some b => exact lv_astore_n hx hb hd rfl hL.has (stI (lsA' := lsA) hL rfl e3).1 rfl (fun lsA' z => kk _ _ _ _ ((stI hL rfl e3).2 z) S)
  case iinc k d =>
    simp only [sm_low, sm_lower] at hl
    obtain ⟨rfl, rfl⟩ := it_some hl
    obtain ⟨x, ls2, e1, e2, e3⟩ := iv4 hs
    cases e3
    rw [Int.toNat_natCast] at e1 e2
    obtain ⟨j, hj⟩ := List.getElem?_of_mem (lv_al_mem (E := E) (q := (k, .int x)) |>.mpr ⟨_, e1, rfl⟩)
    exact lv_iinc hx hb hd hL.has hj rfl (stI (lsA' := lsA) hL rfl e2).1 rfl (fun lsA' z => kk _ _ _ _ ((stI hL rfl e2).2 z) S)
  case iadd =>
    simp only [sm_low, sm_lower] at hl
    obtain ⟨rfl, rfl⟩ := it_some hl
    obtain ⟨x, yv, z, st2, rfl, e1, e2⟩ := iv5 hs
    cases e2
    cases e1
    exact lv_iadd hx hb hd (kk _ _ _ _ hL S)
  case isub =>
    simp only [sm_low, sm_lower] at hl
    obtain ⟨rfl, rfl⟩ := it_some hl
    obtain ⟨x, yv, z, st2, rfl, e1, e2⟩ := iv5 hs
    cases e2
    cases e1
    exact lv_isub hx hb hd (kk _ _ _ _ hL S)
  case imul =>
    simp only [sm_low, sm_lower] at hl
    obtain ⟨rfl, rfl⟩ := it_some hl
    obtain ⟨x, yv, z, st2, rfl, e1, e2⟩ := iv5 hs
    cases e2
    cases e1
    exact lv_imul hx hb hd (kk _ _ _ _ hL S)
  case idiv =>
    simp only [sm_low, sm_lower] at hl
    obtain ⟨rfl, rfl⟩ := it_some hl
    obtain ⟨x, yv, z, st2, rfl, e1, e2⟩ := iv5 hs
    cases e2
    have hne : ¬ yv = 0 := by
      intro z9
      simp [fl_bin, z9] at e1
    simp only [fl_bin, if_neg hne] at e1
    cases e1
    exact lv_idiv hx hb hd hne (kk _ _ _ _ hL S)
  case irem =>
    simp only [sm_low, sm_lower] at hl
    obtain ⟨rfl, rfl⟩ := it_some hl
    obtain ⟨x, yv, z, st2, rfl, e1, e2⟩ := iv5 hs
    cases e2
    have hne : ¬ yv = 0 := by
      intro z9
      simp [fl_bin, z9] at e1
    simp only [fl_bin, if_neg hne] at e1
    cases e1
    exact lv_irem hx hb hd hne (kk _ _ _ _ hL S)
  case ishl =>
    simp only [sm_low, sm_lower] at hl
    obtain ⟨rfl, rfl⟩ := it_some hl
    obtain ⟨x, yv, z, st2, rfl, e1, e2⟩ := iv5 hs
    cases e2
    cases e1
    exact lv_ishl hx hb hd (kk _ _ _ _ hL S)
  case ishr =>
    simp only [sm_low, sm_lower] at hl
    obtain ⟨rfl, rfl⟩ := it_some hl
    obtain ⟨x, yv, z, st2, rfl, e1, e2⟩ := iv5 hs
    cases e2
    cases e1
    exact lv_ishr hx hb hd (kk _ _ _ _ hL S)
  case iushr =>
    simp only [sm_low, sm_lower] at hl
    obtain ⟨rfl, rfl⟩ := it_some hl
    obtain ⟨x, yv, z, st2, rfl, e1, e2⟩ := iv5 hs
    cases e2
    cases e1
    exact lv_iushr hx hb hd rfl (kk _ _ _ _ hL S)
  case iand =>
    simp only [sm_low, sm_lower] at hl
    obtain ⟨rfl, rfl⟩ := it_some hl
    obtain ⟨x, yv, z, st2, rfl, e1, e2⟩ := iv5 hs
    cases e2
    cases e1
    exact lv_iand hx hb hd (kk _ _ _ _ hL S)
  case ior =>
    simp only [sm_low, sm_lower] at hl
    obtain ⟨rfl, rfl⟩ := it_some hl
    obtain ⟨x, yv, z, st2, rfl, e1, e2⟩ := iv5 hs
    cases e2
    cases e1
    exact lv_ior hx hb hd (kk _ _ _ _ hL S)
  case ixor =>
    simp only [sm_low, sm_lower] at hl
    obtain ⟨rfl, rfl⟩ := it_some hl
    obtain ⟨x, yv, z, st2, rfl, e1, e2⟩ := iv5 hs
    cases e2
    cases e1
    exact lv_ixor hx hb hd (kk _ _ _ _ hL S)
  case ifCond cc o =>
    simp only [sm_low, sm_lower] at hl
    split at hl
    · rename_i q0 n9 e9
      obtain ⟨h9, e10⟩ := it_some e9
      cases e10
      obtain ⟨rfl, rfl⟩ := it_some hl
      obtain ⟨x, b, st2, rfl, e1, e2⟩ := iv6 hs
      have ht : (pc : Int) + o = (((pc : Int) + o).toNat : Int) := (Int.toNat_of_nonneg h9).symm
      cases cc <;> cases e1 <;> cases e2
      · exact lv_if_eq hx hb hd ht (fun z => by have k9 := kk _ _ _ _ hL S; simpa [z] using k9) (fun z => by have k9 := kk _ _ _ _ hL S; simpa [z] using k9)
      · exact lv_if_ne hx hb hd ht (fun z => by have k9 := kk _ _ _ _ hL S; simpa [z] using k9) (fun z => by have k9 := kk _ _ _ _ hL S; simpa [z] using k9)
      · exact lv_if_lt hx hb hd ht (fun z => by have k9 := kk _ _ _ _ hL S; simpa [z] using k9) (fun z => by have k9 := kk _ _ _ _ hL S; simpa [z] using k9)
      · exact lv_if_ge hx hb hd ht (fun z => by have k9 := kk _ _ _ _ hL S; simpa [z] using k9) (fun z => by have k9 := kk _ _ _ _ hL S; simpa [z] using k9)
      · exact lv_if_gt hx hb hd ht (fun z => by have k9 := kk _ _ _ _ hL S; simpa [z] using k9) (fun z => by have k9 := kk _ _ _ _ hL S; simpa [z] using k9)
      · exact lv_if_le hx hb hd ht (fun z => by have k9 := kk _ _ _ _ hL S; simpa [z] using k9) (fun z => by have k9 := kk _ _ _ _ hL S; simpa [z] using k9)
    · cases hl
  case if_icmp cc o =>
    simp only [sm_low, sm_lower] at hl
    split at hl
    · rename_i q0 n9 e9
      obtain ⟨h9, e10⟩ := it_some e9
      cases e10
      obtain ⟨rfl, rfl⟩ := it_some hl
      obtain ⟨x, yv, b, st2, rfl, e1, e2⟩ := iv7 hs
      have ht : (pc : Int) + o = (((pc : Int) + o).toNat : Int) := (Int.toNat_of_nonneg h9).symm
      cases cc <;> cases e1 <;> cases e2
      · exact lv_icmp_eq hx hb hd ht (fun z => by have k9 := kk _ _ _ _ hL S; simpa [z] using k9) (fun z => by have k9 := kk _ _ _ _ hL S; simpa [z] using k9)
      · exact lv_icmp_ne hx hb hd ht (fun z => by have k9 := kk _ _ _ _ hL S; simpa [z] using k9) (fun z => by have k9 := kk _ _ _ _ hL S; simpa [z] using k9)
      · exact lv_icmp_lt hx hb hd ht (fun z => by have k9 := kk _ _ _ _ hL S; simpa [z] using k9) (fun z => by have k9 := kk _ _ _ _ hL S; simpa [z] using k9)
      · exact lv_icmp_ge hx hb hd ht (fun z => by have k9 := kk _ _ _ _ hL S; simpa [z] using k9) (fun z => by have k9 := kk _ _ _ _ hL S; simpa [z] using k9)
      · exact lv_icmp_gt hx hb hd ht (fun z => by have k9 := kk _ _ _ _ hL S; simpa [z] using k9) (fun z => by have k9 := kk _ _ _ _ hL S; simpa [z] using k9)
      · exact lv_icmp_le hx hb hd ht (fun z => by have k9 := kk _ _ _ _ hL S; simpa [z] using k9) (fun z => by have k9 := kk _ _ _ _ hL S; simpa [z] using k9)
    · cases hl
  case goto o =>
    simp only [sm_low, sm_lower] at hl
    split at hl
    · rename_i q0 n9 e9
      obtain ⟨h9, e10⟩ := it_some e9
      cases e10
      obtain ⟨rfl, rfl⟩ := it_some hl
      cases iv8 hs
      exact lv_goto hx hb hd (Int.toNat_of_nonneg h9).symm (kk _ _ _ _ hL S)
    · cases hl
  case getfield k =>
    simp only [sm_low, sm_lower] at hl
    cases hk : sm_at sm_rf y.2.2.2.2 k with
    | none => rw [hk] at hl; cases hl
    | some z =>
      obtain ⟨ci, j, ps⟩ := z
      rw [hk] at hl
      simp only at hl
      obtain ⟨rfl, rfl⟩ := it_some hl
      obtain ⟨b, st2, rfl, e1, e2, e3⟩ := iv9 hs
      simp only [Int.toNat_natCast] at e2 e3
      refine rw_get C S e1 e2 hk ho hd ?_
      rcases e3 with ⟨z1, z2⟩ | ⟨z1, z2⟩
      · cases z2
        rw [show wd_f h ci b j = .int (h.1 b j) from if_neg (by omega)]
        exact kk _ _ _ _ hL S
      · cases z2
        rw [show wd_f h ci b j = fl_rv (h.2 b j) from if_pos z1]
        exact kk _ _ _ _ hL S
  case putfield k =>
    simp only [sm_low, sm_lower] at hl
    cases hk : sm_at sm_rf y.2.2.2.2 k with
    | none => rw [hk] at hl; cases hl
    | some z =>
      obtain ⟨ci, j, ps⟩ := z
      rw [hk] at hl
      simp only at hl
      obtain ⟨rfl, rfl⟩ := it_some hl
      obtain ⟨v, b, st2, rfl, e1, e2, e3⟩ := iv10 hs
      simp only [Int.toNat_natCast] at e2 e3
      rcases e3 with ⟨z1, x, z2, z3, z4⟩ | ⟨z1, x, z2, z3⟩
      · cases z4
        refine rw_put (h' := fl_setI h b j x) C S e1 e2 hk ho hd hst (Or.inl ⟨z1, x, z2, z3⟩) (fun j9 h9 => ⟨by funext q9; simp [fl_setI, h9], rfl⟩) (fun j9 h9 => ?_) ?_ (fun H1 locs1 S1 => kk _ _ _ _ hL S1)
        · unfold wd_f
          split
          · rfl
          · simp [fl_setI, h9]
        · rw [z2]
          unfold wd_f
          rw [if_neg (by omega)]
          simp [fl_setI]
      · cases z3
        refine rw_put (h' := fl_setR h b j x) C S e1 e2 hk ho hd hst (Or.inr ⟨z1, x, z2⟩) (fun j9 h9 => ⟨rfl, by funext q9; simp [fl_setR, h9]⟩) (fun j9 h9 => ?_) ?_ (fun H1 locs1 S1 => kk _ _ _ _ hL S1)
        · unfold wd_f
          split
          · simp [fl_setR, h9]
          · rfl
        · rw [z2]
          unfold wd_f
          rw [if_pos z1]
          simp [fl_setR]
  case iaload =>
    simp only [sm_low, sm_lower] at hl
    obtain ⟨rfl, rfl⟩ := it_some hl
    obtain ⟨j, b, st2, rfl, e1, e2, e3⟩ := iv11 hs
    cases e3
    exact rw_iald C S e1 e2 hd (kk _ _ _ _ hL S)
  case iastore =>
    simp only [sm_low, sm_lower] at hl
    obtain ⟨rfl, rfl⟩ := it_some hl
    obtain ⟨x, j, b, st2, rfl, e1, e2, e3, e4⟩ := iv12 hs
    cases e4
    exact rw_iast C S e1 e2 e3 hd (fun H1 locs1 S1 => kk _ _ _ _ hL S1)
  case baload =>
    simp only [sm_low, sm_lower] at hl
    obtain ⟨rfl, rfl⟩ := it_some hl
    obtain ⟨j, b, st2, rfl, e1, e2, e3, e4⟩ := iv13 hs
    cases e4
    exact rw_bald C S e1 e2 e3 hd (kk _ _ _ _ hL S)
  case bastore =>
    simp only [sm_low, sm_lower] at hl
    obtain ⟨rfl, rfl⟩ := it_some hl
    obtain ⟨x, j, b, st2, rfl, e1, e2, e3, e4, e5, e6⟩ := iv14 hs
    cases e6
    exact rw_bast C S e1 e2 e3 e4 e5 hd (fun H1 locs1 S1 => kk _ _ _ _ hL S1)
  case aaload =>
    simp only [sm_low, sm_lower] at hl
    obtain ⟨rfl, rfl⟩ := it_some hl
    obtain ⟨j, b, st2, rfl, e1, e2, e3, e4, e5⟩ := iv15 hs
    cases e5
    exact rw_aald C S e1 e2 e3 e4 hd (kk _ _ _ _ hL S)
  case aastore =>
    simp only [sm_low, sm_lower] at hl
    obtain ⟨rfl, rfl⟩ := it_some hl
    obtain ⟨x, j, b, st2, rfl, e1, e2, e3, e4, e5, e6, e7⟩ := iv16 hs
    cases e7
    exact rw_aast C S e1 e2 e3 e4 e5 e6 hd (fun H1 locs1 S1 => kk _ _ _ _ hL S1)
  case arraylength =>
    simp only [sm_low, sm_lower] at hl
    obtain ⟨rfl, rfl⟩ := it_some hl
    obtain ⟨b, st2, rfl, e1, e2⟩ := iv17 hs
    cases e2
    exact rw_alen C S e1 (fun z => by have := (fl_kinds b (Nat.lt_of_lt_of_le z S.1.1)).1; omega) hd (kk _ _ _ _ hL S)
  case invokevirtual k =>
    simp only [sm_low, sm_lower] at hl
    cases hk : sm_at sm_rm y.2.2.2.2 k with
    | none => rw [hk] at hl; cases hl
    | some z =>
      obtain ⟨m2, ps, nest⟩ := z
      rw [hk] at hl
      simp only at hl
      exfalso
      split at hl
      · rename_i q0 n9 e9
        split at e9
        · split at e9
          · cases e9
            obtain ⟨rfl, rfl⟩ := it_some hl
            have z9 := (ivcall (iv18 hs)).2.2.1
            cases z9
          · cases e9
        · cases e9
      · cases hl
  case invokestatic k =>
    simp only [sm_low, sm_lower] at hl
    split at hl
    · rename_i q0 n9 e9
      split at e9
      · rename_i ps nest hk
        cases e9
        obtain ⟨rfl, rfl⟩ := it_some hl
        obtain ⟨x9, dp, b, sp, o, st2, rfl, ⟨k1, k2, k3, k4, k5, k6, k7, k8, k9, k10, k11⟩, e2⟩ := iv41 hs
        cases e2
        have hw := sw_of sw_rall ho hk
        simp only [sw_r] at hw
        rw [if_neg (by decide), if_pos trivial] at hw
        exact rw_copy C S k1 k2 k3 k4 k5 k6 k7 k8 k9 k10 (hts _ (sw_tbl hw)) (by rw [hml, hL.1]) hR.2.2.1 hR.2.2.2 (by rw [wd_cat]; exact k11) hd (fun H1 locs1 S1 => kk _ _ _ _ hL S1)
      · exfalso
        split at e9
        · split at e9
          · cases e9
            obtain ⟨rfl, rfl⟩ := it_some hl
            have z9 := (ivcall (iv19 hs)).2.2.1
            cases z9
          · cases e9
        · cases e9
      · cases e9
    · cases hl
  case invokespecial k =>
    simp only [sm_low, sm_lower] at hl
    split at hl
    · rename_i q0 n9 e9
      split at e9
      · rename_i ps nest hk
        cases e9
        obtain ⟨rfl, rfl⟩ := it_some hl
        obtain ⟨b, st2, rfl, e1, e2⟩ := iv42 hs
        cases e2
        have hw := sw_of sw_rall ho hk
        simp only [sw_r] at hw
        rw [if_pos trivial] at hw
        exact rw_obj C (hts _ (sw_tbl hw)) (by rw [hml, hL.1]) hR.2.2.1 hR.2.2.2 (by rw [wd_cat]; exact e1) hd (kk _ _ _ _ hL S)
      · exfalso
        split at e9
        · split at e9
          · cases e9
            obtain ⟨rfl, rfl⟩ := it_some hl
            have z9 := (ivcall (iv20 hs)).2.2.1
            cases z9
          · cases e9
        · cases e9
      · cases e9
    · cases hl
  case return_ =>
    simp only [sm_low, sm_lower] at hl
    obtain ⟨rfl, rfl⟩ := it_some hl
    have z9 := (iv21 hs).2
    cases z9
  case ireturn =>
    simp only [sm_low] at hl
    split at hl
    · split at hl
      · cases hl
        obtain ⟨x, e1, e2, e3⟩ := iv22 hs
        cases e3
      · cases hl
        obtain ⟨x, e1, e2, e3⟩ := iv22 hs
        cases e3
      · cases hl
    · cases hl
  case lreturn =>
    simp only [sm_low, sm_lower] at hl
    obtain ⟨rfl, rfl⟩ := it_some hl
    obtain ⟨x, e1, e2⟩ := iv23 hs
    cases e2
  case areturn =>
    simp only [sm_low, sm_lower] at hl
    obtain ⟨rfl, rfl⟩ := it_some hl
    obtain ⟨x, e1, e2⟩ := iv24 hs
    cases e2
  case dup =>
    simp only [sm_low, sm_lower] at hl
    obtain ⟨rfl, rfl⟩ := it_some hl
    obtain ⟨v, st2, rfl, e1, e2⟩ := iv25 hs
    cases e2
    exact lv_dup hx hb hd (by rw [wd_v_cat]; exact e1) (kk _ _ _ _ hL S)
  case dup2 =>
    simp only [sm_low, sm_lower] at hl
    obtain ⟨rfl, rfl⟩ := it_some hl
    rcases iv26 hs with ⟨x, st2, rfl, e1⟩ | ⟨v, w, st2, rfl, e1, e2, e3⟩
    · cases e1
      exact lv_dup2_2 hx hb hd rfl (kk _ _ _ _ hL S)
    · cases e3
      exact lv_dup2_11 hx hb hd (by rw [wd_v_cat]; exact e1) (by rw [wd_v_cat]; exact e2) (kk _ _ _ _ hL S)
  case pop =>
    simp only [sm_low, sm_lower] at hl
    obtain ⟨rfl, rfl⟩ := it_some hl
    obtain ⟨v, st2, rfl, e1, e2⟩ := iv27 hs
    cases e2
    exact lv_pop hx hb hd (by rw [wd_v_cat]; exact e1) (kk _ _ _ _ hL S)
  case pop2 =>
    simp only [sm_low, sm_lower] at hl
    obtain ⟨rfl, rfl⟩ := it_some hl
    rcases iv28 hs with ⟨x, st2, rfl, e1⟩ | ⟨v, w, st2, rfl, e1, e2, e3⟩
    · cases e1
      exact lv_pop2_2 hx hb hd rfl (kk _ _ _ _ hL S)
    · cases e3
      exact lv_pop2_11 hx hb hd (by rw [wd_v_cat]; exact e1) (by rw [wd_v_cat]; exact e2) (kk _ _ _ _ hL S)
  case new k =>
    simp only [sm_low, sm_lower] at hl
    cases hk : sm_at sm_rc y.2.2.2.2 k with
    | none => rw [hk] at hl; cases hl
    | some z =>
      obtain ⟨ci, ps⟩ := z
      rw [hk] at hl
      simp only at hl
      obtain ⟨rfl, rfl⟩ := it_some hl
      obtain ⟨e1, e2, e3⟩ := iv29 hs
      simp only [Int.toNat_natCast] at e2
      cases e3
      have hle := wd_sz_le hn0
      have q1 : n + 1 - n0 = n - n0 + 1 := by omega
      have q2 : wd_sz (n + 1) - wd_sz n0 = wd_sz n - wd_sz n0 + (fl_lay n).2 := by show wd_sz n + (fl_lay n).2 - wd_sz n0 = _; omega
      rw [q1, q2] at hR kk
      exact rw_new C S e1 e2 hk ho hR.1 hR.2.1 hd (fun H1 S1 => kk _ _ _ _ hL S1)
  case newarray aty =>
    cases aty
    case int =>
      simp only [sm_low, sm_lower] at hl
      obtain ⟨rfl, rfl⟩ := it_some hl
      obtain ⟨x, st2, rfl, e1, e2, e3, e4⟩ := iv30 hs
      cases e4
      have hle := wd_sz_le hn0
      have q1 : n + 1 - n0 = n - n0 + 1 := by omega
      have q2 : wd_sz (n + 1) - wd_sz n0 = wd_sz n - wd_sz n0 + (fl_lay n).2 := by show wd_sz n + (fl_lay n).2 - wd_sz n0 = _; omega
      rw [q1, q2] at hR kk
      exact rw_newa C S (ty := .int) rfl (Or.inl ⟨rfl, rfl⟩) e1 e2 e3 (fl_kinds n e1).2 hR.1 hR.2.1 hd (fun H1 cA' S1 => kk _ _ _ _ hL S1)
    case boolean =>
      simp only [sm_low, sm_lower] at hl
      obtain ⟨rfl, rfl⟩ := it_some hl
      obtain ⟨x, st2, rfl, e1, e2, e3, e4⟩ := iv30 hs
      cases e4
      have hle := wd_sz_le hn0
      have q1 : n + 1 - n0 = n - n0 + 1 := by omega
      have q2 : wd_sz (n + 1) - wd_sz n0 = wd_sz n - wd_sz n0 + (fl_lay n).2 := by show wd_sz n + (fl_lay n).2 - wd_sz n0 = _; omega
      rw [q1, q2] at hR kk
      exact rw_newa C S (ty := .boolean) rfl (Or.inr ⟨rfl, rfl⟩) e1 e2 e3 (fl_kinds n e1).2 hR.1 hR.2.1 hd (fun H1 cA' S1 => kk _ _ _ _ hL S1)
    all_goals (simp only [sm_low, sm_lower] at hl; cases hl)
  case anewarray k =>
    simp only [sm_low, sm_lower] at hl
    cases hk : sm_at sm_rc y.2.2.2.2 k with
    | none => rw [hk] at hl; cases hl
    | some z =>
      obtain ⟨ci, ps⟩ := z
      rw [hk] at hl
      simp only at hl
      obtain ⟨rfl, rfl⟩ := it_some hl
      obtain ⟨x, st2, rfl, e1, e2, e3, e4⟩ := iv31 hs
      simp only [Int.toNat_natCast] at e3
      cases e4
      have hle := wd_sz_le hn0
      have q1 : n + 1 - n0 = n - n0 + 1 := by omega
      have q2 : wd_sz (n + 1) - wd_sz n0 = wd_sz n - wd_sz n0 + (fl_lay n).2 := by show wd_sz n + (fl_lay n).2 - wd_sz n0 = _; omega
      rw [q1, q2] at hR kk
      have hkd := (fl_kinds n e1).1
      rw [e3] at hkd
      simp only at hkd
      exact rw_newq C S e1 e2 e3 (fl_kinds n e1).2 (by omega) hk ho hR.1 hR.2.1 hd (fun H1 cA' S1 => kk _ _ _ _ hL S1)
  case getstatic k =>
    simp only [sm_low, sm_lower] at hl
    cases hk : sm_at sm_rs y.2.2.2.2 k with
    | none => rw [hk] at hl; cases hl
    | some z =>
      obtain ⟨j, ps, nest⟩ := z
      rw [hk] at hl
      simp only at hl
      obtain ⟨rfl, rfl⟩ := it_some hl
      cases iv32 hs
      exact rw_gets C S hk ho hd (kk _ _ _ _ hL S)
  case ifnull o =>
    simp only [sm_low, sm_lower] at hl
    split at hl
    · rename_i q0 n9 e9
      obtain ⟨h9, e10⟩ := it_some e9
      cases e10
      obtain ⟨rfl, rfl⟩ := it_some hl
      rcases iv33 hs with ⟨st2, rfl, e1⟩ | ⟨b, st2, rfl, e1⟩
      · cases e1
        exact lv_ifnullN hx hb hd (Int.toNat_of_nonneg h9).symm (kk _ _ _ _ hL S)
      · cases e1
        exact lv_ifnull hx hb hd (kk _ _ _ _ hL S)
    · cases hl
  case ifnonnull o =>
    simp only [sm_low, sm_lower] at hl
    split at hl
    · rename_i q0 n9 e9
      obtain ⟨h9, e10⟩ := it_some e9
      cases e10
      obtain ⟨rfl, rfl⟩ := it_some hl
      rcases iv34 hs with ⟨st2, rfl, e1⟩ | ⟨b, st2, rfl, e1⟩
      · cases e1
        exact lv_ifnonnullN hx hb hd (kk _ _ _ _ hL S)
      · cases e1
        exact lv_ifnonnull hx hb hd (Int.toNat_of_nonneg h9).symm (kk _ _ _ _ hL S)
    · cases hl
  case aconst_null =>
    simp only [sm_low, sm_lower] at hl
    obtain ⟨rfl, rfl⟩ := it_some hl
    cases iv35 hs
    exact lv_null hx hb hd (kk _ _ _ _ hL S)
  case i2l =>
    simp only [sm_low, sm_lower] at hl
    obtain ⟨rfl, rfl⟩ := it_some hl
    obtain ⟨x, st2, rfl, e1⟩ := iv36 hs
    cases e1
    exact lv_i2l hx hb hd rfl (kk _ _ _ _ hL S)
  case ladd =>
    simp only [sm_low, sm_lower] at hl
    obtain ⟨rfl, rfl⟩ := it_some hl
    obtain ⟨x, yv, st2, rfl, e1⟩ := iv37 hs
    cases e1
    exact lv_ladd hx hb hd (kk _ _ _ _ hL S)
  case lmul =>
    simp only [sm_low, sm_lower] at hl
    obtain ⟨rfl, rfl⟩ := it_some hl
    obtain ⟨x, yv, st2, rfl, e1⟩ := iv38 hs
    cases e1
    exact lv_lmul hx hb hd (kk _ _ _ _ hL S)
  case tableswitch df lo hi offs =>
    simp only [sm_low] at hl
    obtain ⟨⟨⟨h1, h2⟩, h3, h4⟩, e9⟩ := it_some hl
    cases e9
    obtain ⟨x, st2, rfl, e1⟩ := iv40 hs
    have hdf : (pc : Int) + df = (((pc : Int) + df).toNat : Int) := (Int.toNat_of_nonneg h3).symm
    have hlen : (offs.toList.map (fun o => (pc : Int) + o)).length = (hi + 1 - lo).toNat := by simpa using h2
    rcases e1 with ⟨z1, z2⟩ | ⟨z1, z2, z3⟩ | ⟨z1, t, z2, z3⟩
    · cases z2
      exact lv_tableOut hx hb hd (Or.inl z1) hdf (kk _ _ _ _ hL S)
    · cases z3
      have z4 := List.getElem?_eq_none_iff.mp z2
      rw [hlen] at z4
      exact lv_tableOut hx hb hd (Or.inr (by omega)) hdf (kk _ _ _ _ hL S)
    · cases z3
      have z4 := (List.getElem?_eq_some_iff.mp z2).1
      rw [hlen] at z4
      rw [List.getElem?_map] at z2
      obtain ⟨off, z5, z6⟩ := Option.map_eq_some_iff.mp z2
      subst z6
      have z7 : offs[(x.toInt - lo).toNat]? = some off := by rw [← Array.getElem?_toList]; exact z5
      have z8 : 0 ≤ (pc : Int) + off := by
        have z9 := (Array.all_eq_true_iff_forall_mem.mp h4) off (Array.mem_of_getElem? z7)
        exact of_decide_eq_true z9
      exact lv_tableIn hx hb hd z1 (by omega) z7 (Int.toNat_of_nonneg z8).symm (kk _ _ _ _ hL S)
  all_goals (simp only [sm_low, sm_lower] at hl; cases hl)
end STEP
