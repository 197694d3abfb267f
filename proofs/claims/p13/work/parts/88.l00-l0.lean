
set_option maxRecDepth 20000
/-! WHAT EVERY CASE OF THE LAW KEEPS -/
def LI (h : Hp) : Prop := SU h ∧ CH h ∧ NUM h ∧ OPS h
theorem kd_act {c i : Nat} (hc : c < 5) (hi : i < 8) : ab_kd (152 + 12 * c + i) = 18 := of_decide_eq_true (List.all_eq_true.mp (List.all_eq_true.mp (show ((List.range 5).all fun c => (List.range 8).all fun i => decide (ab_kd (152 + 12 * c + i) = 18)) = true by decide +kernel) c (List.mem_range.mpr hc)) i (List.mem_range.mpr hi))
theorem kd_sta {j : Nat} (hj : j < 10) : ab_kd (1000 + j) = 0 := of_decide_eq_true (List.all_eq_true.mp (show ((List.range 10).all fun j => decide (ab_kd (1000 + j) = 0)) = true by decide +kernel) j (List.mem_range.mpr hj))
def actTys : List TY := ((ab_K[18]?).getD (0, 0, [])).2.2
theorem actTys_1 : ab_K[18]? = some (0, 19, actTys) := rfl
theorem actTys_2 : actTys[7]? = some (2, 0, 0) := rfl
theorem TI.r7 {h : Hp} (hT : TInv h) {c i : Nat} (hc : c < 5) (hi : i < 8) : ∃ s, h.2 (152 + 12 * c + i) 7 = some s := by
  obtain ⟨b, hb, -⟩ := hT (152 + 12 * c + i) 0 19 actTys 7 (2, 0, 0) (by rw [kd_act hc hi]; decide) (by rw [kd_act hc hi]; exact actTys_1) (by decide) (by rw [if_pos (by decide)]; exact actTys_2)
  exact ⟨b, hb⟩
theorem NUM.fr {h h' : Hp} (hT : TInv h') (N : NUM h) (a : ∀ c : Nat, c < 5 → h'.1 (148 + 12 * c) 0 = h.1 (148 + 12 * c) 0 ∧ ∀ i : Nat, i < 8 → h'.1 (152 + 12 * c + i) 0 = h.1 (152 + 12 * c + i) 0 ∧ h'.1 (152 + 12 * c + i) 1 = h.1 (152 + 12 * c + i) 1) (b : ∀ j p : Nat, j < 10 → h'.1 (1000 + j) p = h.1 (1000 + j) p) : NUM h' := by
  refine ⟨fun c hc => ⟨?_, fun i hi => ⟨?_, ?_, TI.r7 hT hc hi⟩⟩, fun j p hj hp => ?_⟩
  · rw [(a c hc).1]; exact (N.1 c hc).1
  · rw [((a c hc).2 i hi).1]; exact ((N.1 c hc).2 i hi).1
  · rw [((a c hc).2 i hi).2]; exact ((N.1 c hc).2 i hi).2.1
  · rw [b j p hj]; exact N.2 j p hj hp
theorem OPS.fr {h h' : Hp} (O : OPS h) (a : h'.1 223 0 = h.1 223 0) (b : h'.1 223 4 = h.1 223 4) (m : ∀ r i : Nat, 224 ≤ r → r ≤ 230 → h'.1 r i = h.1 r i) : OPS h' := by
  have e0 : qt h' = qt h := by unfold qt; rw [a]
  have e1 : qc h' = qc h := by unfold qc; rw [b]
  intro c hc i hi
  have e2 : qm h' c = qm h c := by unfold qm; rw [m 227 c (by decide) (by decide)]
  have e3 : qT h' c i = qT h c i := by unfold qT; rw [m 228 _ (by decide) (by decide)]
  have e4 : qK h' c i = qK h c i := by unfold qK; rw [e3, m 224 _ (by decide) (by decide)]
  have e5 : qO h' c i = qO h c i := by unfold qO; rw [m 229 _ (by decide) (by decide)]
  have e6 : qA h' c i = qA h c i := by unfold qA; rw [m 230 _ (by decide) (by decide)]
  rw [e0, e3, e4, e5, e6]
  rw [e1] at hc
  rw [e2] at hi
  exact O c hc i hi
/-! the generic cases -/
def xlChk (S : List Nat) : Bool := xuChk S && (sfChk 3 0 S && sfChk 0 0 S && sfChk 0 1 S)
def xlMods (mods : List Nat) : Bool := xuMods mods && !(mods.contains 0)
theorem xlMods_u {mods : List Nat} (h : xlMods mods = true) : xuMods mods = true := by
  unfold xlMods at h
  rw [Bool.and_eq_true] at h
  exact h.1
theorem xlMods_0 {mods : List Nat} (h : xlMods mods = true) : 0 ∉ mods := by
  unfold xlMods at h
  rw [Bool.and_eq_true, Bool.not_eq_true'] at h
  intro z
  rw [List.contains_iff_mem.mpr z] at h
  cases h.2
theorem NUM.x {h h' : Hp} {d m : Nat} {ls : List (Option Value)} {v : Option Value} {S mods : List Nat} (N : NUM h) (hT : TInv h') (e : Ev d m (0, ls, [], h, fl_tot) (v, h', fl_tot)) (hm : S.contains m = true) (c : xlChk S = true) (F : Fr mods h h') (h0 : 0 ∉ mods) : NUM h' := by
  unfold xlChk at c
  simp only [Bool.and_eq_true] at c
  obtain ⟨c0, ⟨c1, c2⟩, c3⟩ := c
  exact N.fr hT (fun c hc => ⟨sf_ev c1 hm e _ (congrArg Prod.fst (lay_clerk hc)), fun i hi => ⟨sf_ev c2 hm e _ (congrArg Prod.fst (lay_act hc hi)), sf_ev c3 hm e _ (congrArg Prod.fst (lay_act hc hi))⟩⟩) fun j p hj => by rw [(F _ (by rw [kd_sta hj]; exact h0)).1]
/-- a method of the class's that leaves the choices alone -/
theorem LI.x {h h' : Hp} {d m : Nat} {ls : List (Option Value)} {v : Option Value} {S mods : List Nat} (U : LI h) (hT : TInv h') (e : Ev d m (0, ls, [], h, fl_tot) (v, h', fl_tot)) (hm : S.contains m = true) (c : xlChk S = true) (F : Fr mods h h') (hmod : xlMods mods = true) (big : ∀ r : Nat, 223 ≤ r → r < 285 → h'.1 r = h.1 r) (c222 : ∀ j : Nat, j < 600 → h'.1 222 j = h.1 222 j) : LI h' := by
  obtain ⟨U1, U2, U3, U4⟩ := U
  refine ⟨U1.x e hm (by unfold xlChk at c; rw [Bool.and_eq_true] at c; exact c.1) F (xlMods_u hmod), fun j hj => ?_, U3.x hT e hm c F (xlMods_0 hmod), U4.fr ?_ ?_ fun r i h1 h2 => ?_⟩
  · rw [c222 j hj, big 233 (by decide) (by decide)]; exact U2 j hj
  · rw [big 223 (by decide) (by decide)]
  · rw [big 223 (by decide) (by decide)]
  · rw [big r (by omega) (by omega)]
/-- a method of the reference's -/
theorem LI.m {h h' : Hp} (U : LI h) (hT : TInv h') (F : Fq bKs bFs h h') (R : Rf h h') : LI h' := by
  obtain ⟨U1, U2, U3, U4⟩ := U
  have low : ∀ r i, r < 223 → h'.1 r i = h.1 r i := fun r i hr => by rw [R.2 r (by have := kdl hr; omega)]
  have hb : ∀ K ∈ bKs, 43 ≤ K := by decide
  have mm : ∀ r i, 224 ≤ r → r ≤ 234 → h'.1 r i = h.1 r i := fun r i h1 h2 => by
    have := F.c (K := r - 192) (by omega) (by omega) (fun z => by have := hb _ z; omega) i
    rw [show 192 + (r - 192) = r by omega] at this
    exact this
  refine ⟨U1.m F R, fun j hj => ?_, U3.fr hT (fun c hc => ⟨low _ _ (by omega), fun i hi => ⟨low _ _ (by omega), low _ _ (by omega)⟩⟩) fun j p hj => ?_, U4.fr (F.fc 0 (by decide)) (F.fc 4 (by decide)) fun r i h1 h2 => mm r i h1 (by omega)⟩
  · rw [low _ _ (by decide), mm _ _ (by decide) (by decide)]; exact U2 j hj
  · rw [R.2 _ (by rw [kd_sta hj]; decide)]
theorem kd_big : ((List.range 62).all fun k => decide (31 ≤ ab_kd (223 + k))) = true := by decide +kernel
theorem kdb {r : Nat} (h1 : 223 ≤ r) (h2 : r < 285) : 31 ≤ ab_kd r := by
  have := of_decide_eq_true (List.all_eq_true.mp kd_big (r - 223) (List.mem_range.mpr (by omega)))
  rw [show 223 + (r - 223) = r by omega] at this
  exact this
