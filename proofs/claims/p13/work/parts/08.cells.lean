/-! rows for arrays, new cells, statics, copies -/
theorem fl_tyall : ∀ ci, ci < 11 → ∀ k, k < (fl_N[ci]?).getD 0 → (match fl_ty[ci]? with
  | some f => (match f k with
    | FieldType.int => true
    | FieldType.boolean => true
    | FieldType.object _ => true
    | FieldType.array _ => true
    | _ => false)
  | none => false) = true := by decide +kernel
theorem fl_tyof {ci N k : Nat} {f : Nat → FieldType} (hf : fl_ty[ci]? = some f) (hN : fl_N[ci]? = some N) (hk : k < N) : f k = FieldType.int ∨ f k = FieldType.boolean ∨ (∃ o, f k = FieldType.object o) ∨ ∃ o, f k = FieldType.array o := by
  have hci : ci < 11 := by
    have := (List.getElem?_eq_some_iff.mp hN).1
    simpa [fl_N] using this
  have hz := fl_tyall ci hci k (by rw [hN]; exact hk)
  rw [hf] at hz
  simp only at hz
  split at hz
  · rename_i z; exact Or.inl z
  · rename_i z; exact Or.inr (Or.inl z)
  · rename_i z; exact Or.inr (Or.inr (Or.inl ⟨_, z⟩))
  · rename_i z; exact Or.inr (Or.inr (Or.inr ⟨_, z⟩))
  · cases hz
section CELLS
variable {p : Program} {l : Launch} {e : Env} {R : Room} {s : State} {m : MethodId} {args : Array Value} {below : List Frame} {meth : Method} {c : Code} {H : Heap} {locs : List Loc} {cells slots : Nat} {Q : State → Prop}
variable {E : wd_E} {g : Nat → Nat → Int32} {cA : Nat → ClassId} {n : Nat} {h h' : Hp} {y : sm_M} {pc : Nat} {lsA : Array Slot} {rest : List Value}
theorem wd_adge {E : wd_E} {b : Nat} (hb : ¬ b < 1000) : wd_ad E b = E.2.1 (b - 1000) := if_neg hb
theorem rw_iald (C : Ctx E g p s m args meth c y) (S : Sb E g cA n h s H locs) {b : Nat} {i : Int32} (hI : fl_isI n b = true) (hin : fl_in i (fl_len h b) = true) (hd : decode y.2.1 pc = .ok (.iaload, 1))
    (kk : W p l e R s m args below meth c H locs cells slots Q (F0 m (pc + 1) lsA (.int (h.1 b i.toNatClampNeg) :: rest))) : W p l e R s m args below meth c H locs cells slots Q (F0 m pc lsA (.int i :: .ref (wd_ad E b) :: rest)) := by
  obtain ⟨hx, hb, -, -, -, -, hT, -⟩ := C
  unfold fl_isI at hI
  by_cases hlt : b < 1000
  · rw [if_pos hlt, Bool.and_eq_true] at hI
    have hbn : b < n := of_decide_eq_true hI.1
    have hk : (fl_lay b).1 = 20 := eq_of_beq hI.2
    have hlen : fl_len h b = (fl_lay b).2 := if_pos hlt
    rw [hlen] at hin
    obtain ⟨t0, ht⟩ := wd_ty (cA := cA) hbn (t := .int) (by unfold wd_aty; rw [if_pos hk])
    rw [wd_adlt S.1.1 hbn]
    exact va_iald hx hb S.1.2.2.1 S.1.2.1 b t0 (by rw [wd_at hbn, wd_c_int (by omega) (by omega)]) ht (fl_in_of hin) hd kk
  · rw [if_neg hlt] at hI
    have hle : b ≤ 1010 := of_decide_eq_true hI
    rw [wd_len_eq S.1.2.2.2.2 (by omega)] at hin
    rw [wd_adge hlt]
    have e2 : h.1 b i.toNatClampNeg = g (b - 1000) i.toNatClampNeg := by
      have z := S.1.2.2.2.2 (b - 1000) i.toNatClampNeg
      rw [show 1000 + (b - 1000) = b by omega] at z
      exact z
    rw [e2] at kk
    exact va_ti hx hb (hT.1 (b - 1000) (by omega)) S.2 (fl_in_of hin) rfl hd kk
theorem rw_bald (C : Ctx E g p s m args meth c y) (S : Sb E g cA n h s H locs) {b : Nat} {i : Int32} (hbn : b < n) (hk : (fl_lay b).1 = 21) (hin : fl_in i (fl_lay b).2 = true) (hd : decode y.2.1 pc = .ok (.baload, 1))
    (kk : W p l e R s m args below meth c H locs cells slots Q (F0 m (pc + 1) lsA (.int (h.1 b i.toNatClampNeg) :: rest))) : W p l e R s m args below meth c H locs cells slots Q (F0 m pc lsA (.int i :: .ref (wd_ad E b) :: rest)) := by
  obtain ⟨hx, hb, -, -, -, -, hT, -⟩ := C
  obtain ⟨t0, ht⟩ := wd_ty (cA := cA) hbn (t := .boolean) (by unfold wd_aty; rw [if_neg (by omega), if_pos hk])
  rw [wd_adlt S.1.1 hbn]
  exact va_zald hx hb S.1.2.2.1 S.1.2.1 b t0 (by rw [wd_at hbn, wd_c_int (by omega) (by omega)]) ht (fl_in_of hin) hd kk
theorem wd_aty_ref {k : Nat} (h1 : 30 ≤ k) (h2 : k < 41) : ∃ q : vw_C, vwCl[k - 30]? = some q ∧ wd_aty k = some (.object q.1) := by
  have hl : k - 30 < vwCl.length := by simp; omega
  refine ⟨vwCl[k - 30], List.getElem?_eq_getElem hl, ?_⟩
  unfold wd_aty
  rw [if_neg (by omega), if_neg (by omega), if_pos ⟨h1, h2⟩, List.getElem?_eq_getElem hl]
  rfl
theorem rw_aald (C : Ctx E g p s m args meth c y) (S : Sb E g cA n h s H locs) {b : Nat} {i : Int32} (hbn : b < n) (h1 : 30 ≤ (fl_lay b).1) (h2 : (fl_lay b).1 < 41) (hin : fl_in i (fl_lay b).2 = true) (hd : decode y.2.1 pc = .ok (.aaload, 1))
    (kk : W p l e R s m args below meth c H locs cells slots Q (F0 m (pc + 1) lsA (wd_v E (fl_rv (h.2 b i.toNatClampNeg)) :: rest))) : W p l e R s m args below meth c H locs cells slots Q (F0 m pc lsA (.int i :: .ref (wd_ad E b) :: rest)) := by
  obtain ⟨hx, hb, -, -, -, -, hT, -⟩ := C
  obtain ⟨q, hq, ha⟩ := wd_aty_ref h1 h2
  obtain ⟨t0, ht⟩ := wd_ty (cA := cA) hbn ha
  rw [wd_adlt S.1.1 hbn]
  rw [wd_rv] at kk
  exact va_aldq hx hb S.1.2.2.1 S.1.2.1 b t0 (by rw [wd_at hbn, wd_c_ref h1]) ht (fl_in_of hin) hd kk
theorem rw_alen (C : Ctx E g p s m args meth c y) (S : Sb E g cA n h s H locs) {b : Nat} (hb0 : b < n ∧ 20 ≤ (fl_lay b).1 ∧ (fl_lay b).1 < 41 ∨ 1000 ≤ b ∧ b ≤ 1010) (h29 : b < n → (fl_lay b).1 < 22 ∨ 30 ≤ (fl_lay b).1) (hd : decode y.2.1 pc = .ok (.arraylength, 1))
    (kk : W p l e R s m args below meth c H locs cells slots Q (F0 m (pc + 1) lsA (.int (Int32.ofNat (fl_len h b)) :: rest))) : W p l e R s m args below meth c H locs cells slots Q (F0 m pc lsA (.ref (wd_ad E b) :: rest)) := by
  obtain ⟨hx, hb, -, -, -, -, hT, -⟩ := C
  rcases hb0 with ⟨hbn, k1, k2⟩ | ⟨k1, k2⟩
  · have hlt : b < 1000 := Nat.lt_of_lt_of_le hbn (Nat.le_trans S.1.1 (by decide))
    have hlen : fl_len h b = (fl_lay b).2 := if_pos hlt
    rw [hlen] at kk
    rw [wd_adlt S.1.1 hbn]
    rcases h29 hbn with z | z
    · have : ∃ t, wd_aty (fl_lay b).1 = some t := by
        unfold wd_aty
        by_cases z1 : (fl_lay b).1 = 20
        · exact ⟨_, if_pos z1⟩
        · exact ⟨_, by rw [if_neg z1, if_pos (by omega)]⟩
      obtain ⟨t, hta⟩ := this
      obtain ⟨t0, ht⟩ := wd_ty (cA := cA) hbn hta
      exact va_alen hx hb S.1.2.2.1 S.1.2.1 b t0 (by rw [wd_at hbn, wd_c_int (by omega) (by omega)]) ht rfl hd kk
    · obtain ⟨q, hq, hta⟩ := wd_aty_ref z k2
      obtain ⟨t0, ht⟩ := wd_ty (cA := cA) hbn hta
      exact va_alen hx hb S.1.2.2.1 S.1.2.1 b t0 (by rw [wd_at hbn, wd_c_ref z]) ht rfl hd kk
  · rw [wd_adge (by omega)]
    rw [wd_len_eq S.1.2.2.2.2 (by omega)] at kk
    exact va_tlen hx hb (hT.1 (b - 1000) (by omega)) S.2 rfl hd kk
theorem rw_iast (C : Ctx E g p s m args meth c y) (S : Sb E g cA n h s H locs) {b : Nat} {i x : Int32} (hbn : b < n) (hk : (fl_lay b).1 = 20) (hin : fl_in i (fl_lay b).2 = true) (hd : decode y.2.1 pc = .ok (.iastore, 1))
    (kk : ∀ (H1 : Heap) (locs1 : List Loc), Sb E g cA n (fl_setI h b i.toNatClampNeg x) s H1 locs1 → W p l e R s m args below meth c H1 locs1 cells slots Q (F0 m (pc + 1) lsA rest)) : W p l e R s m args below meth c H locs cells slots Q (F0 m pc lsA (.int x :: .int i :: .ref (wd_ad E b) :: rest)) := by
  obtain ⟨hx, hb, -, -, -, -, hT, -⟩ := C
  obtain ⟨t0, ht⟩ := wd_ty (cA := cA) hbn (t := .int) (by unfold wd_aty; rw [if_pos hk])
  rw [wd_adlt S.1.1 hbn]
  have he := wd_at (E := E) (cA := cA) (h := h) hbn
  rw [wd_c_int (by omega) (by omega)] at he
  have hcell : H[E.1 + b]? = some (vp_cell (cA b) ((fl_lay b).2, .inl (h.1 b))) := S.1.2.1 b _ he
  refine W.iast hx hb hcell ((S.1.2.2.1.2 t0 _ ht).1 _ (fun j => .int (h.1 b j))) (fun q => by cases q) (by show ¬ (i < 0 ∨ (arrV _ _ _).slots.size ≤ _); rw [arrV_size]; exact fl_in_of hin) rfl rfl hd fun H1 z1 z2 z3 => ?_
  refine kk H1 _ (S.upd (h' := fl_setI h b i.toNatClampNeg x) hbn (fun j hj => ⟨by funext k; simp [fl_setI, hj], rfl⟩) (wd_c_int (by omega) (by omega)) ?_ z2 z3 _)
  show H1[E.1 + b]? = some (vp_cell _ _)
  rw [z1, vp_cell_i, vp_cell_i, arrV_store]
  congr 2
  funext q
  by_cases hq : q = i.toNatClampNeg
  · subst hq
    simp [updV, fl_setI]
  · simp [updV, fl_setI, hq]
theorem rw_aast (C : Ctx E g p s m args meth c y) (S : Sb E g cA n h s H locs) {b v : Nat} {i : Int32} (hbn : b < n) (h1 : 30 ≤ (fl_lay b).1) (h2 : (fl_lay b).1 < 41) (hin : fl_in i (fl_lay b).2 = true) (hvn : v < n) (hv : (fl_lay v).1 + 30 = (fl_lay b).1) (hd : decode y.2.1 pc = .ok (.aastore, 1))
    (kk : ∀ (H1 : Heap) (locs1 : List Loc), Sb E g cA n (fl_setR h b i.toNatClampNeg (some v)) s H1 locs1 → W p l e R s m args below meth c H1 locs1 cells slots Q (F0 m (pc + 1) lsA rest)) : W p l e R s m args below meth c H locs cells slots Q (F0 m pc lsA (.ref (wd_ad E v) :: .int i :: .ref (wd_ad E b) :: rest)) := by
  obtain ⟨hx, hb, -, -, -, -, hT, -⟩ := C
  obtain ⟨r, hq, ha⟩ := wd_aty_ref h1 h2
  obtain ⟨t0, ht⟩ := wd_ty (cA := cA) hbn ha
  rw [wd_adlt S.1.1 hbn, wd_adlt S.1.1 hvn]
  have he := wd_at (E := E) (cA := cA) (h := h) hbn
  rw [wd_c_ref h1] at he
  have hev := wd_at (E := E) (cA := cA) (h := h) hvn
  rw [wd_c_obj (ci := (fl_lay v).1) (N := (fl_lay v).2) rfl (by omega)] at hev
  have hin' := fl_in_of hin
  have hlt : i.toNatClampNeg < (fl_lay b).2 := Nat.not_le.mp fun q => hin' (Or.inr q)
  have h0 : ¬ i < 0 := fun q => hin' (Or.inl q)
  have hK := S.1.2.2.1
  have hc : vwCl[(fl_lay v).1]? = some r := by rw [show (fl_lay v).1 = (fl_lay b).1 - 30 by omega]; exact hq
  obtain ⟨r', hr', cellV, g1, g2, g3, -⟩ := S.1.2.1 v _ hev
  have hcls := (hK.1 _ r hc).2
  obtain ⟨kA, comp, k1, k2, k3, -⟩ := (hK.2 t0 _ ht).2
  have hcomp : comp = E.2.2.1 (fl_lay v).1 := Option.some.inj (k3.symm.trans hcls.1)
  subst hcomp
  obtain ⟨kC, hkC, -⟩ := hcls.2
  have hcell : H[E.1 + b]? = some (vp_cell (cA b) ((fl_lay b).2, .inr (.inr (.inr (.inr (fun j => (h.2 b j).map (wd_ad E))))))) := S.1.2.1 b _ he
  refine W.aast hx hb hcell (fun q z => by cases z) (fun z => by cases z) k1 k2 rfl hkC ⟨h0, by show _ < (arrV _ _ _).slots.size; rw [arrV_size]; exact hlt⟩ g1 (fun q z => by rw [g3] at z; cases z) (by rw [g2]; exact hkC) (by rw [g2]; exact va_assign hcls) rfl rfl hd fun H1 z1 z2 z3 => ?_
  refine kk H1 _ (S.upd (h' := fl_setR h b i.toNatClampNeg (some v)) hbn (fun j hj => ⟨rfl, by funext k; simp [fl_setR, hj]⟩) (wd_c_ref h1) ?_ z2 z3 _)
  show H1[E.1 + b]? = some (vp_cell _ _)
  rw [z1, vp_cell_q, vp_cell_q, arrV_store]
  congr 2
  funext q
  by_cases hq : q = i.toNatClampNeg
  · subst hq
    simp [updV, fl_setR, va_rf, wd_adlt S.1.1 hvn]
  · simp [updV, fl_setR, hq]
theorem Sb.last (S : Sb E g cA n h s H locs) {r : Nat} (hn : n = fl_tot) (hr : r < n) (h1 : ∀ j, j ≠ r → h'.1 j = h.1 j ∧ h'.2 j = h.2 j) {e : va_E} (he : wd_c E cA h' r = e) {H1 : Heap} {locs1 : List Loc} (hP : va_P E.2.2 vwCl ((wd_ws E cA h n).set r (E.1 + r, e)) H1) (hS : va_S (fun q => E.1 ≤ q) s.heap H1 locs1) : Sb E g cA n h' s H1 locs1 := by
  rw [wd_set hr h1 he] at hP
  refine ⟨⟨S.1.1, hP, S.1.2.2.1, fun q => absurd q (by omega), fun j i => ?_⟩, hS⟩
  rw [(h1 (1000 + j) (by have : fl_tot = 285 := rfl; omega)).1]
  exact S.1.2.2.2.2 j i
theorem rw_bast (C : Ctx E g p s m args meth c y) (S : Sb E g cA n h s H locs) {b : Nat} {i x : Int32} (hbn : b < n) (hk : (fl_lay b).1 = 21) (hin : fl_in i (fl_lay b).2 = true) (hx1 : fl_bit x = true) (hn : n = fl_tot) (hd : decode y.2.1 pc = .ok (.bastore, 1))
    (kk : ∀ (H1 : Heap) (locs1 : List Loc), Sb E g cA n (fl_setI h b i.toNatClampNeg x) s H1 locs1 → W p l e R s m args below meth c H1 locs1 cells slots Q (F0 m (pc + 1) lsA rest)) : W p l e R s m args below meth c H locs cells slots Q (F0 m pc lsA (.int x :: .int i :: .ref (wd_ad E b) :: rest)) := by
  obtain ⟨hx, hb, -, -, -, -, hT, -⟩ := C
  obtain ⟨t0, ht⟩ := wd_ty (cA := cA) hbn (t := .boolean) (by unfold wd_aty; rw [if_neg (by omega), if_pos hk])
  rw [wd_adlt S.1.1 hbn]
  have hnar : vp_nar .boolean x = x := by
    simp only [fl_bit, Bool.or_eq_true, decide_eq_true_eq] at hx1
    rcases hx1 with rfl | rfl <;> decide
  refine va_zast hx hb S.1.2.2.1 S.1.2.1 (wd_D E cA h n) S.2 b t0 (by rw [wd_at hbn, wd_c_int (by omega) (by omega)]) ht (fl_in_of hin) hd fun H1 locs1 z1 z2 z3 => ?_
  refine kk H1 _ (S.last (h' := fl_setI h b i.toNatClampNeg x) hn hbn (fun j hj => ⟨by funext k; simp [fl_setI, hj], rfl⟩) (by rw [wd_c_int (by omega) (by omega), hnar, show (fl_setI h b i.toNatClampNeg x).1 b = upd (h.1 b) i.toNatClampNeg x from by funext q; by_cases hq : q = i.toNatClampNeg <;> simp [upd, fl_setI, hq]]) z1 z3)
theorem rw_copy (C : Ctx E g p s m args meth c y) (S : Sb E g cA n h s H locs) {o b idx : Nat} {sp dp k : Int32} (hn : n = fl_tot) (hon : o < n) (hbn : b < n) (ho : (fl_lay o).1 = 20) (hbk : (fl_lay b).1 = 20) (h1 : ¬ sp < 0) (h2 : ¬ dp < 0) (h3 : ¬ k < 0) (h4 : sp.toNatClampNeg + k.toNatClampNeg ≤ (fl_lay o).2) (h5 : dp.toNatClampNeg + k.toNatClampNeg ≤ (fl_lay b).2)
    (hlink : (Cond.methodLink y.1.cls idx sm_arrName).before args s = true) (hml : c.maxLocals = lsA.size) (hrf : 1 ≤ R.frames) (hrl : 60 ≤ R.locals) (hrest : (rest.map fun v => v.category).sum ≤ 8) (hd : decode y.2.1 pc = .ok (.invokestatic idx, 3))
    (kk : ∀ (H1 : Heap) (locs1 : List Loc), Sb E g cA n (fl_copy h o sp.toNatClampNeg b dp.toNatClampNeg k.toNatClampNeg) s H1 locs1 → W p l e R s m args below meth c H1 locs1 cells slots Q (F0 m (pc + 3) lsA rest)) : W p l e R s m args below meth c H locs cells slots Q (F0 m pc lsA (.int k :: .int dp :: .ref (wd_ad E b) :: .int sp :: .ref (wd_ad E o) :: rest)) := by
  obtain ⟨hx, hb, -, -, hown, hts, hT, -⟩ := C
  obtain ⟨t0, ht0⟩ := wd_ty (cA := cA) hon (t := .int) (by unfold wd_aty; rw [if_pos ho])
  obtain ⟨t1, ht1⟩ := wd_ty (cA := cA) hbn (t := .int) (by unfold wd_aty; rw [if_pos hbk])
  rw [wd_adlt S.1.1 hbn, wd_adlt S.1.1 hon]
  have hw : nativeFrameWords "java/lang/System" "arraycopy" 5 + 11 ≤ 52 := by decide
  refine va_copyi hx hb hml hown hlink (hts _ sw_cpy.1) (hts _ sw_cpy.2.1) (hts _ sw_cpy.2.2) S.1.2.2.1 S.1.2.1 (wd_D E cA h n) S.2 o b t0 t1 (by rw [wd_at hon, wd_c_int (by omega) (by omega)]) (by rw [wd_at hbn, wd_c_int (by omega) (by omega)]) ht0 ht1 rfl h1 h2 h3 h4 h5 (fun i hi => rfl) hrf (by omega) hd fun H1 locs1 z1 z2 z3 => ?_
  refine kk H1 _ (S.last (h' := fl_copy h o sp.toNatClampNeg b dp.toNatClampNeg k.toNatClampNeg) hn hbn (fun j hj => ⟨by funext q; simp [fl_copy, hj], rfl⟩) (by rw [wd_c_int (by omega) (by omega), show (fl_copy h o sp.toNatClampNeg b dp.toNatClampNeg k.toNatClampNeg).1 b = va_cpy (h.1 o) (h.1 b) sp.toNatClampNeg dp.toNatClampNeg k.toNatClampNeg from by funext q; simp [va_cpy, fl_copy]]) z1 z3)
/-- the next cell -/
theorem Sb.push (S : Sb E g cA n h s H locs) {cA' : Nat → ClassId} {e : va_E} {H1 : Heap} (hn : n < fl_tot) (hsz : H1.size = H.size + 1) (ho : ∀ q, q < H.size → H1[q]? = H[q]?) (h1 : ∀ j, j ≠ n → cA' j = cA j) (h2 : wd_c E cA' (fl_zero h n) n = e) (ha : va_at E.2.2 vwCl (H.size, e) H1) (hK : va_K E.2.2 vwCl (wd_tys cA' (n + 1)) s) : Sb E g cA' (n + 1) (fl_zero h n) s H1 locs := by
  obtain ⟨⟨a1, a2, a3, a4, a5⟩, hS⟩ := S
  have hz := a4 hn
  refine ⟨⟨hn, ?_, hK, fun _ => by omega, fun j i => ?_⟩, ⟨by have := hS.1; omega, fun q q1 q2 => (ho q (Nat.lt_of_lt_of_le q1 hS.1)).trans (hS.2.1 q q1 q2), hS.2.2⟩⟩
  · rw [← wd_push h1 h2]
    refine (a2.kept fun k q hk => ho _ ((a2 k q hk).lt)).app fun k q hk => ?_
    have hk0 : k < 1 := (List.getElem?_eq_some_iff.mp hk).1
    rw [show k = 0 by omega] at hk
    cases hk
    rw [← hz]
    exact ha
  · have : fl_tot = 285 := rfl
    simp [fl_zero, show 1000 + j ≠ n by omega, a5 j i]
theorem rw_new (C : Ctx E g p s m args meth c y) (S : Sb E g cA n h s H locs) {ci idx ps : Nat} (hn : n < fl_tot) (hl : fl_lay n = (ci, (fl_N[ci]?).getD 0)) (hf : sm_at sm_rc y.2.2.2.2 idx = some (ci, ps)) (hy : sm_own[y.2.2.2.2]? = some y.1.cls) (hcells : cells + 1 ≤ R.cells) (hslots : slots + (fl_lay n).2 ≤ R.slots) (hd : decode y.2.1 pc = .ok (.new idx, 3))
    (kk : ∀ (H1 : Heap), Sb E g cA (n + 1) (fl_zero h n) s H1 locs → W p l e R s m args below meth c H1 locs (cells + 1) (slots + (fl_lay n).2) Q (F0 m (pc + 3) lsA (.ref (wd_ad E n) :: rest))) : W p l e R s m args below meth c H locs cells slots Q (F0 m pc lsA rest) := by
  obtain ⟨hx, hb, -, -, hown, hts, hT, -⟩ := C
  have h1 := sw_of sw_call hy hf
  unfold sw_c at h1
  cases hc : vwCl[ci]? with
  | none => rw [hc] at h1; cases h1
  | some q =>
    obtain ⟨Cn, T, N⟩ := q
    rw [hc] at h1
    obtain ⟨ty, e1, e2, e3, e4⟩ := cl_of hc
    rw [e2] at hl
    have hl2 : (fl_lay n).2 = N := by rw [hl]; rfl
    rw [hl2] at hslots kk
    obtain ⟨hin, hinst, hini⟩ := cl_words hc
    have hKn := S.1.2.2.1.1 ci _ hc
    have hci := cl_lt hc
    refine W.newcK hx hb hown (hts _ (sw_tbl h1)) (hts _ hinst) (hts _ hini) rfl hd hcells hslots hKn.2.1 rfl fun H1 kC hkC z1 z2 z3 => ?_
    have hz := S.1.2.2.2.1 hn
    have hadn : wd_ad E n = H.size := by rw [hz]; exact if_pos (by have : fl_tot = 285 := rfl; omega)
    have hdef : ∀ j, j < N → defaultValue (ty j) = vp_V ((List.range N).map (fun j => wd_v E (wd_f (fl_zero h n) ci n j))) j := by
      intro j hj
      have : vp_V ((List.range N).map (fun j => wd_v E (wd_f (fl_zero h n) ci n j))) j = wd_v E (wd_f (fl_zero h n) ci n j) := by
        unfold vp_V
        rw [List.getD_eq_getElem?_getD, List.getElem?_map]
        simp [hj]
      rw [this]
      unfold wd_f fl_kind
      rw [e1, e2]
      simp only [Option.getD_some, if_pos hj]
      have hz := fl_tyof e1 e2 hj
      rcases hz with z | z | ⟨o, z⟩ | ⟨o, z⟩ <;> rw [z] <;> simp [fl_zero, fl_rv] <;> rfl
    refine (hadn ▸ kk H1 (S.push hn z2 z3 (fun _ _ => rfl) (wd_c_obj (ci := ci) (N := N) hl (by omega)) ⟨_, hc, (u_born ty hts hin hKn hkC z1 e3).to hdef⟩ ?_) : _)
    rw [wd_tys_succ (cA := cA) (fun _ _ => rfl)]
    have : wd_aty (fl_lay n).1 = none := by
      rw [hl]
      unfold wd_aty
      simp only
      rw [if_neg (by omega), if_neg (by omega), if_neg (by omega)]
    rw [this]
    simpa using S.1.2.2.1
theorem rw_newa (C : Ctx E g p s m args meth c y) (S : Sb E g cA n h s H locs) {k : Nat} {x : Int32} {at0 : ArrayType} {ty : FieldType} (hty : newarray.typeOf at0 = ty) (hk : k = 20 ∧ ty = .int ∨ k = 21 ∧ ty = .boolean) (hn : n < fl_tot) (hx0 : ¬ x < 0) (hl : fl_lay n = (k, x.toNatClampNeg)) (hsm : (fl_lay n).2 ≤ 5000) (hcells : cells + 1 ≤ R.cells) (hslots : slots + (fl_lay n).2 ≤ R.slots) (hd : decode y.2.1 pc = .ok (.newarray at0, 2))
    (kk : ∀ (H1 : Heap) (cA' : Nat → ClassId), Sb E g cA' (n + 1) (fl_zero h n) s H1 locs → W p l e R s m args below meth c H1 locs (cells + 1) (slots + (fl_lay n).2) Q (F0 m (pc + 2) lsA (.ref (wd_ad E n) :: rest))) : W p l e R s m args below meth c H locs cells slots Q (F0 m pc lsA (.int x :: rest)) := by
  obtain ⟨hx, hb, -, -, hown, hts, hT, -⟩ := C
  have hl1 : (fl_lay n).1 = k := by rw [hl]
  have hl2 : (fl_lay n).2 = x.toNatClampNeg := by rw [hl]
  have harr : (Cond.arrayClass (newarray.typeOf at0)).before args s = true := by
    rw [hty]
    rcases hk with ⟨-, rfl⟩ | ⟨-, rfl⟩
    · exact hts _ sw_arr.1
    · exact hts _ sw_arr.2
  rw [hl2] at hslots kk hsm
  have hcb : componentBytes (newarray.typeOf at0) ≤ 8 := by rw [hty]; rcases hk with ⟨-, rfl⟩ | ⟨-, rfl⟩ <;> decide
  refine va_newaK hx hb harr rfl hd rfl hx0 rfl (by have := Nat.mul_le_mul hsm hcb; omega) hcells hslots rfl fun H1 c1 z1 z2 z3 z4 z5 => ?_
  have hz := S.1.2.2.2.1 hn
  have hadn : wd_ad E n = H.size := by rw [hz]; exact if_pos (by have : fl_tot = 285 := rfl; omega)
  have hcA : ∀ j, j ≠ n → (fun j => if j = n then c1 else cA j) j = cA j := fun j hj => if_neg hj
  have hdv : (fun _ : Nat => defaultValue (newarray.typeOf at0)) = fun _ => .int 0 := by rw [hty]; rcases hk with ⟨-, rfl⟩ | ⟨-, rfl⟩ <;> rfl
  have haty : wd_aty (fl_lay n).1 = some ty := by
    rw [hl1]
    unfold wd_aty
    rcases hk with ⟨rfl, rfl⟩ | ⟨rfl, rfl⟩ <;> rfl
  refine (hadn ▸ kk H1 (fun j => if j = n then c1 else cA j) (S.push hn z2 z3 hcA (wd_c_int (by rw [hl1]; rcases hk with z | z <;> omega) (by rw [hl1]; rcases hk with z | z <;> omega)) ?_ ?_) : _)
  · show H1[H.size]? = some (vp_cell _ _)
    rw [z1, vp_cell_i, hdv, hl2]
    simp [fl_zero]
  · rw [wd_tys_succ (cA := cA) hcA, haty]
    refine S.1.2.2.1.app ⟨S.1.2.2.1.1, fun k' q hq => ?_⟩
    have hk0 : k' < 1 := by simpa using (List.getElem?_eq_some_iff.mp hq).1
    rw [show k' = 0 by omega] at hq
    simp at hq
    subst hq
    refine ⟨by rw [← hty]; exact z4, ?_⟩
    rw [hty] at z5
    rcases hk with ⟨-, rfl⟩ | ⟨-, rfl⟩ <;> exact z5
theorem rw_newq (C : Ctx E g p s m args meth c y) (S : Sb E g cA n h s H locs) {ci idx ps : Nat} {x : Int32} (hn : n < fl_tot) (hx0 : ¬ x < 0) (hl : fl_lay n = (30 + ci, x.toNatClampNeg)) (hsm : (fl_lay n).2 ≤ 5000) (hci4 : ci = 0 ∨ ci = 3 ∨ ci = 7 ∨ ci = 8) (hf : sm_at sm_rc y.2.2.2.2 idx = some (ci, ps)) (hy : sm_own[y.2.2.2.2]? = some y.1.cls) (hcells : cells + 1 ≤ R.cells) (hslots : slots + (fl_lay n).2 ≤ R.slots) (hd : decode y.2.1 pc = .ok (.anewarray idx, 3))
    (kk : ∀ (H1 : Heap) (cA' : Nat → ClassId), Sb E g cA' (n + 1) (fl_zero h n) s H1 locs → W p l e R s m args below meth c H1 locs (cells + 1) (slots + (fl_lay n).2) Q (F0 m (pc + 3) lsA (.ref (wd_ad E n) :: rest))) : W p l e R s m args below meth c H locs cells slots Q (F0 m pc lsA (.int x :: rest)) := by
  obtain ⟨hx, hb, -, -, hown, hts, hT, -⟩ := C
  have hl1 : (fl_lay n).1 = 30 + ci := by rw [hl]
  have hl2 : (fl_lay n).2 = x.toNatClampNeg := by rw [hl]
  have h1 := sw_of sw_call hy hf
  unfold sw_c at h1
  cases hc : vwCl[ci]? with
  | none => rw [hc] at h1; cases h1
  | some q =>
    obtain ⟨Cn, T, N⟩ := q
    rw [hc] at h1
    have hci := cl_lt hc
    rw [hl2] at hslots kk hsm
    have hao : va_AO Cn s := by
      refine hT.2.2.2 _ (List.mem_of_getElem? hc) ?_
      rcases hci4 with rfl | rfl | rfl | rfl <;> (cases hc; simp)
    refine W.anew hx hb hown (hts _ (sw_tbl h1)) (va_AO.use hao) rfl hd rfl hx0 (by omega) hcells hslots fun c1 kA comp f1 f2 f3 f4 => ?_
    generalize hH1 : H.push ({ cls := c1, slots := Array.replicate x.toNatClampNeg .null, vm := .none } : Cell) = H1
    have z2 : H1.size = H.size + 1 := by rw [← hH1, Array.size_push]
    have z1 : H1[H.size]? = some (arrV c1 x.toNatClampNeg (fun _ => .null)) := by rw [← hH1, Array.getElem?_push_size, ← arrV_new]
    have z3 : ∀ q : Nat, q < H.size → H1[q]? = H[q]? := fun q hq => by rw [← hH1, Array.getElem?_push, if_neg (Nat.ne_of_lt hq)]
    have hAr : ArrOfT s c1 (.object Cn) := fun N z => ⟨(fun k h => by cases h), kA, f2, comp, f3⟩
    have hz := S.1.2.2.2.1 hn
    have hadn : wd_ad E n = H.size := by rw [hz]; exact if_pos (by have : fl_tot = 285 := rfl; omega)
    have hcA : ∀ j, j ≠ n → (fun j => if j = n then c1 else cA j) j = cA j := fun j hj => if_neg hj
    have haty : wd_aty (fl_lay n).1 = some (.object Cn) := by
      rw [hl1]
      unfold wd_aty
      rw [if_neg (by omega), if_neg (by omega), if_pos (by omega), show 30 + ci - 30 = ci by omega, hc]
      rfl
    refine (hadn ▸ kk H1 (fun j => if j = n then c1 else cA j) (S.push hn z2 z3 hcA (wd_c_ref (by rw [hl1]; omega)) ?_ ?_) : _)
    · show H1[H.size]? = some (vp_cell _ _)
      rw [z1, vp_cell_q, hl2]
      simp [fl_zero, va_rf]
    · rw [wd_tys_succ (cA := cA) hcA, haty]
      refine S.1.2.2.1.app ⟨S.1.2.2.1.1, fun k' q hq => ?_⟩
      have hk0 : k' < 1 := by simpa using (List.getElem?_eq_some_iff.mp hq).1
      rw [show k' = 0 by omega] at hq
      simp at hq
      subst hq
      exact ⟨hAr, kA, comp, f2, f3, f4, f1⟩
theorem rw_gets (C : Ctx E g p s m args meth c y) (S : Sb E g cA n h s H locs) {j idx ps nest : Nat} (hf : sm_at sm_rs y.2.2.2.2 idx = some (j, ps, nest)) (hy : sm_own[y.2.2.2.2]? = some y.1.cls) (hd : decode y.2.1 pc = .ok (.getstatic idx, 3))
    (kk : W p l e R s m args below meth c H locs cells slots Q (F0 m (pc + 3) lsA (.ref (wd_ad E (1000 + j)) :: rest))) : W p l e R s m args below meth c H locs cells slots Q (F0 m pc lsA rest) := by
  obtain ⟨hx, hb, -, -, hown, hts, hT, -⟩ := C
  have h1 := sw_of sw_sall hy hf
  unfold sw_s at h1
  cases hs : sm_sn[j]? with
  | none => simp only [hs] at h1; cases h1
  | some nm =>
    simp only [hs] at h1
    rw [wd_adge (by omega), show 1000 + j - 1000 = j by omega] at kk
    have hZ := hT.2.1 j nm hs
    split at h1
    · exact va_gets hx hb hZ S.2 hown (hts _ (sw_tbl h1)) (fun _ q => q) hd kk
    · exact va_getsN hx hb hZ S.2 hown (va_Nw.use rfl (hT.2.2.1 _ (sw_nestF h1))) (fun _ q => q) hd kk
theorem rw_obj (C : Ctx E g p s m args meth c y) {idx a : Nat} (hlink : (Cond.methodLink y.1.cls idx objectInit).before args s = true) (hml : lsA.size = c.maxLocals) (hrf : 1 ≤ R.frames) (hrl : 60 ≤ R.locals) (hrest : (rest.map fun v => v.category).sum ≤ 8) (hd : decode y.2.1 pc = .ok (.invokespecial idx, 3))
    (kk : W p l e R s m args below meth c H locs cells slots Q (F0 m (pc + 3) lsA rest)) : W p l e R s m args below meth c H locs cells slots Q (F0 m pc lsA (.ref a :: rest)) := by
  obtain ⟨hx, hb, -, -, hown, hts, hT, -⟩ := C
  exact W.objInit hx hb hown hlink (hts _ sw_obj.1) (hts _ sw_obj.2) (g := F0 m pc lsA (.ref a :: rest)) rfl hml rfl hd hrf (by show 2 * 0 + _ + 12 ≤ _; omega) kk
end CELLS
