
set_option maxRecDepth 20000
/-! WHAT WAS PREPARED STAYS ALIKE where both methods leave it alone -/
theorem kd_low : ((List.range 223).all fun r => decide (ab_kd r < 31)) = true := by decide +kernel
theorem kdl {r : Nat} (h : r < 223) : ab_kd r < 31 := of_decide_eq_true (List.all_eq_true.mp kd_low r (List.mem_range.mpr h))
theorem kd_told {t : Nat} (h : t < 6) : ab_kd (9 + 24 * t) = 12 := by
  have := List.all_eq_true.mp (show ((List.range 6).all fun t => decide (ab_kd (9 + 24 * t) = 12)) = true by decide +kernel) t (List.mem_range.mpr h)
  exact of_decide_eq_true this
theorem kd_strs {t : Nat} (h : t < 6) : ab_kd (7 + 24 * t) = 7 := by
  have := List.all_eq_true.mp (show ((List.range 6).all fun t => decide (ab_kd (7 + 24 * t) = 7)) = true by decide +kernel) t (List.mem_range.mpr h)
  exact of_decide_eq_true this
theorem kd_acts {c : Nat} (h : c < 5) : ab_kd (149 + 12 * c) = 17 := by
  have := List.all_eq_true.mp (show ((List.range 5).all fun c => decide (ab_kd (149 + 12 * c) = 17)) = true by decide +kernel) c (List.mem_range.mpr h)
  exact of_decide_eq_true this
theorem SH.of {R R' : Nat → Nat → Option Nat} (S : SH R) (q : ∀ r k, ((fl_lay r).1, k) ∈ frL → R' r k = R r k) (a : ∀ r, ab_kd r ∈ [3, 7, 15, 17] → ∀ k, R' r k = R r k) (m : ∀ k, R' 223 k = R 223 k) : SH R' :=
  ⟨⟨(q 0 0 (by decide +kernel)).trans S.ix_0, (q 0 1 (by decide +kernel)).trans S.ix_1, (q 0 2 (by decide +kernel)).trans S.ix_2, (q 0 3 (by decide +kernel)).trans S.ix_3, (q 0 4 (by decide +kernel)).trans S.ix_4, (q 1 0 (by decide +kernel)).trans S.desk_0, (q 1 1 (by decide +kernel)).trans S.desk_1, (q 208 0 (by decide +kernel)).trans S.run_0, (q 208 1 (by decide +kernel)).trans S.run_1, (q 208 2 (by decide +kernel)).trans S.run_2, (q 208 3 (by decide +kernel)).trans S.run_3, (q 212 0 (by decide +kernel)).trans S.chk_0, (q 212 1 (by decide +kernel)).trans S.chk_1, (q 212 2 (by decide +kernel)).trans S.chk_2, (q 212 3 (by decide +kernel)).trans S.chk_3, (q 212 4 (by decide +kernel)).trans S.chk_4, (q 212 5 (by decide +kernel)).trans S.chk_5, (q 213 0 (by decide +kernel)).trans S.plain_0, (q 218 0 (by decide +kernel)).trans S.exp_0, (q 218 1 (by decide +kernel)).trans S.exp_1, (q 218 2 (by decide +kernel)).trans S.exp_2, (q 218 3 (by decide +kernel)).trans S.exp_3, (q 218 4 (by decide +kernel)).trans S.exp_4, (q 218 5 (by decide +kernel)).trans S.exp_5⟩,
   fun t ht => ⟨(a 2 (by decide +kernel) t).trans (S.trs ht), (q _ 0 (by rw [lay_tray ht]; decide)).trans (S.tray_0 ht), (q _ 1 (by rw [lay_tray ht]; decide)).trans (S.tray_1 ht), (q _ 2 (by rw [lay_tray ht]; decide)).trans (S.tray_2 ht), (q _ 3 (by rw [lay_tray ht]; decide)).trans (S.tray_3 ht), (q _ 4 (by rw [lay_tray ht]; decide)).trans (S.tray_4 ht), (q _ 5 (by rw [lay_tray ht]; decide)).trans (S.tray_5 ht), (q _ 0 (by rw [lay_cards ht]; decide)).trans (S.cards_0 ht)⟩,
   fun t ht s hs => ⟨(a _ (by rw [kd_strs ht]; decide) s).trans (S.strs ht hs), (q _ 2 (by rw [lay_stripe ht hs]; decide)).trans (S.stripe_2 ht hs)⟩,
   fun c hc => ⟨(a 3 (by decide +kernel) c).trans (S.cks hc), (q _ 1 (by rw [lay_clerk hc]; decide)).trans (S.clerk_1 hc), (q _ 2 (by rw [lay_clerk hc]; decide)).trans (S.clerk_2 hc), (q _ 0 (by rw [lay_copy hc]; decide)).trans (S.copy_0 hc)⟩,
   fun c hc i hi => (a _ (by rw [kd_acts hc]; decide) i).trans (S.acts hc hi),
   fun p hp => (m p.1).trans (S.2.2.2.2.2 p hp)⟩
theorem SU.of {h h' : Hp} (U : SU h) (S : SH h'.2) (d2 : h'.1 1 2 = h.1 1 2) (d3 : h'.1 1 3 = h.1 1 3) (tr : ∀ t : Nat, t < 6 → (∀ k, 6 ≤ k → k ≤ 8 → h'.1 (4 + 24 * t) k = h.1 (4 + 24 * t) k) ∧ ∀ k, h'.1 (9 + 24 * t) k = h.1 (9 + 24 * t) k) (cl : ∀ c : Nat, c < 5 → h'.1 (148 + 12 * c) 3 = h.1 (148 + 12 * c) 3 ∧ ∀ i : Nat, i < 8 → ∀ k, 2 ≤ k → k ≤ 6 → h'.1 (152 + 12 * c + i) k = h.1 (152 + 12 * c + i) k) (m0 : h'.1 223 0 = h.1 223 0) (m4 : h'.1 223 4 = h.1 223 4) (mm : ∀ r i, 224 ≤ r → r ≤ 234 → h'.1 r i = h.1 r i) : SU h' := by
  obtain ⟨U0, ⟨U1, U2⟩, U4, U5, U6⟩ := U
  refine ⟨S, ⟨by rw [d2, m0]; exact U1, by rw [d3, m4]; exact U2⟩, fun t t6 ht => ?_, fun t t6 ht k hk => ?_, fun c c5 hc => ?_⟩
  · rw [d2] at ht
    obtain ⟨v1, v2, v3, v4⟩ := U4 t t6 ht
    obtain ⟨w1, w2⟩ := tr t t6
    refine ⟨?_, ?_, ?_, fun k hk => ?_⟩
    · rw [w1 6 (by decide) (by decide), mm 224 t (by decide) (by decide)]; exact v1
    · rw [w1 7 (by decide) (by decide), mm 225 t (by decide) (by decide)]; exact v2
    · rw [w1 8 (by decide) (by decide), mm 226 t (by decide) (by decide)]; exact v3
    · rw [w2 k, mm 234 _ (by decide) (by decide)]; exact v4 k hk
  · rw [d2] at ht
    rw [mm 234 _ (by decide) (by decide)]
    exact U5 t t6 ht k hk
  · rw [d3] at hc
    obtain ⟨v1, v2⟩ := U6 c c5 hc
    obtain ⟨w1, w2⟩ := cl c c5
    refine ⟨by rw [w1, mm 227 c (by decide) (by decide)]; exact v1, fun i hi i8 => ?_⟩
    rw [mm 227 c (by decide) (by decide)] at hi
    obtain ⟨z1, z2, z3, z4, z5⟩ := v2 i hi i8
    have w3 := w2 i i8
    refine ⟨?_, ?_, ?_, ?_, ?_⟩
    · rw [w3 2 (by decide) (by decide), mm 228 _ (by decide) (by decide)]; exact z1
    · rw [w3 3 (by decide) (by decide), mm 229 _ (by decide) (by decide)]; exact z2
    · rw [w3 4 (by decide) (by decide), mm 230 _ (by decide) (by decide)]; exact z3
    · rw [w3 5 (by decide) (by decide), mm 231 _ (by decide) (by decide)]; exact z4
    · rw [w3 6 (by decide) (by decide), mm 232 _ (by decide) (by decide)]; exact z5
theorem Fq.c {Ks : List Nat} {fs : List Int} {h h' : Hp} (F : Fq Ks fs h h') {K : Nat} (h1 : 32 ≤ K) (h2 : K < 93) (hK : K ∉ Ks) (i : Nat) : h'.1 (192 + K) i = h.1 (192 + K) i := by
  have := F.1 K i h1 h2 hK
  rw [xrd (by omega) h2, xrd (by omega) h2] at this
  exact Int32.toInt_inj.mp this
theorem Fq.fc {Ks : List Nat} {fs : List Int} {h h' : Hp} (F : Fq Ks fs h h') (k : Nat) (hk : (k : Int) ∉ fs) : h'.1 223 k = h.1 223 k := by
  have := F.2 k (by omega) hk
  rw [xrd (by decide) (by decide), xrd (by decide) (by decide)] at this
  exact Int32.toInt_inj.mp this
/-- a method of the reference's -/
theorem SU.m {h h' : Hp} (U : SU h) (F : Fq bKs bFs h h') (R : Rf h h') : SU h' := by
  have low : ∀ r i, r < 223 → h'.1 r i = h.1 r i := fun r i hr => by rw [R.2 r (by have := kdl hr; omega)]
  refine SU.of U (by rw [R.1]; exact U.1) (low _ _ (by decide)) (low _ _ (by decide)) (fun t ht => ⟨fun k _ _ => low _ _ (by omega), fun k => low _ _ (by omega)⟩) (fun c hc => ⟨low _ _ (by omega), fun i hi k _ _ => low _ _ (by omega)⟩) (F.fc 0 (by decide)) (F.fc 4 (by decide)) fun r i h1 h2 => ?_
  have hb : ∀ K ∈ bKs, 43 ≤ K := by decide
  have := F.c (K := r - 192) (by omega) (by omega) (fun z => by have := hb _ z; omega) i
  rw [show 192 + (r - 192) = r by omega] at this
  exact this
def xuChk (S : List Nat) : Bool := srChk S && (sfChk 4 2 S && sfChk 4 3 S && sfChk 3 3 S) && (sfChk 8 6 S && sfChk 8 7 S && sfChk 8 8 S) && (sfChk 0 2 S && sfChk 0 3 S && sfChk 0 4 S && sfChk 0 5 S && sfChk 0 6 S)
def xuMods (mods : List Nat) : Bool := mods.all fun z => decide (z < 31) && !([3, 7, 12, 15, 17].contains z)
/-- a method of the class's -/
theorem SU.x {h h' : Hp} {d m : Nat} {ls : List (Option Value)} {v : Option Value} {S mods : List Nat} (U : SU h) (e : Ev d m (0, ls, [], h, fl_tot) (v, h', fl_tot)) (hm : S.contains m = true) (c : xuChk S = true) (F : Fr mods h h') (hmod : xuMods mods = true) : SU h' := by
  unfold xuChk at c
  simp only [Bool.and_eq_true] at c
  obtain ⟨⟨⟨c0, ⟨c1, c2⟩, c3⟩, ⟨c4, c5⟩, c6⟩, ⟨⟨⟨c7, c8⟩, c9⟩, c10⟩, c11⟩ := c
  have nm : ∀ z, z ∈ [3, 7, 12, 15, 17] ∨ 31 ≤ z → z ∉ mods := fun z hz hq => by
    have := List.all_eq_true.mp hmod z hq
    rw [Bool.and_eq_true, decide_eq_true_eq] at this
    rcases hz with hz | hz
    · have h2 := this.2
      rw [List.contains_iff_mem.mpr hz] at h2
      cases h2
    · omega
  have k31 : ∀ K, 31 ≤ K → K < 93 → ab_kd (192 + K) = K := fun K h1 h2 => by
    rw [← xcm h1 h2]
    exact xc_kd' h1 h2
  have big : ∀ r i, 223 ≤ r → r ≤ 234 → h'.1 r i = h.1 r i := fun r i h1 h2 => by
    have kk := k31 (r - 192) (by omega) (by omega)
    rw [show 192 + (r - 192) = r by omega] at kk
    rw [(F r (nm _ (Or.inr (by rw [kk]; omega)))).1]
  have S' : SH h'.2 := SH.of U.1 (sr_ev c0 hm e).2 (fun r hr k => by rw [(F r (nm _ (Or.inl (by revert hr; generalize ab_kd r = z; intro hr; simp only [List.mem_cons, List.not_mem_nil, or_false] at hr ⊢; omega)))).2]) (fun k => by rw [(F 223 (nm _ (Or.inr (by have := k31 31 (by decide) (by decide); rw [show ab_kd 223 = 31 from this]; decide)))).2])
  refine SU.of U S' (sf_ev c1 hm e 1 (by decide +kernel)) (sf_ev c2 hm e 1 (by decide +kernel)) (fun t ht => ⟨fun k k1 k2 => ?_, fun k => ?_⟩) (fun c hc => ⟨?_, fun i hi k k1 k2 => ?_⟩) (big _ _ (by decide) (by decide)) (big _ _ (by decide) (by decide)) fun r i h1 h2 => big r i (by omega) h2
  · have lt := congrArg Prod.fst (lay_tray ht)
    have : k = 6 ∨ k = 7 ∨ k = 8 := by omega
    rcases this with rfl | rfl | rfl
    · exact sf_ev c4 hm e _ lt
    · exact sf_ev c5 hm e _ lt
    · exact sf_ev c6 hm e _ lt
  · rw [(F _ (nm _ (Or.inl (by rw [kd_told ht]; decide)))).1]
  · exact sf_ev c3 hm e _ (congrArg Prod.fst (lay_clerk hc))
  · have lt := congrArg Prod.fst (lay_act hc hi)
    have : k = 2 ∨ k = 3 ∨ k = 4 ∨ k = 5 ∨ k = 6 := by omega
    rcases this with rfl | rfl | rfl | rfl | rfl
    · exact sf_ev c7 hm e _ lt
    · exact sf_ev c8 hm e _ lt
    · exact sf_ev c9 hm e _ lt
    · exact sf_ev c10 hm e _ lt
    · exact sf_ev c11 hm e _ lt
/-- a call of the class's -/
theorem lc_xf {L : Nat} {xs : Nat → Int32} {h : Hp} (I : LwI L xs h) (i : Int32) {j k m pc nx : Nat} {lg : Bool} (hc : ctP j k m lg = true) (hq : fl_code 214 pc = some (18, [(m : Int), (k : Int)], nx)) (hk : lwK m k 0 = true) : ∃ w h', XEv m k i xs h w h' ∧ (∃ c, ab_cts[j]? = some c ∧ Fr c.2.2.2.2.1 h h') ∧ (∀ r, 31 ≤ ab_kd r → h'.1 r = h.1 r) ∧ LwI L xs h' ∧ ((lg = false → ∃ x, w = .int x) ∧ (lg = true → ∃ x, w = .long x)) ∧ ∀ d r rest, 20 ≤ d → fl_cat rest ≤ 8 → Ev d 214 (nx, lwL i, w :: rest, h', fl_tot) r → Ev d 214 (pc, lwL i, (lwA k (0 : Nat)).map (lwC i xs) ++ rest, h, fl_tot) r := by
  unfold ctP at hc
  split at hc
  · rename_i c hct
    simp only [Bool.and_eq_true, decide_eq_true_eq] at hc
    obtain ⟨⟨⟨⟨⟨c1, c2⟩, c3⟩, c4⟩, c5⟩, c6⟩ := hc
    have hlen : (lwV k i xs).length = k := by unfold lwV; simp
    obtain ⟨y, y1, y2, v, h', g1, g2, g3, g4, -⟩ := cv_all hct (.ref 0 :: (lwV k i xs).map Value.int) h I.1 (by
      rw [c3]
      refine ⟨_, _, rfl, ⟨0, rfl, by decide +kernel⟩, ?_⟩
      have := aOK_ints (lwV k i xs)
      rw [hlen] at this
      exact this) (fun p hp => by
      rw [List.isEmpty_iff] at c4
      rw [c4] at hp
      cases hp)
    have hv : ∃ w, v = some w ∧ ((lg = false → ∃ x, w = .int x) ∧ (lg = true → ∃ x, w = .long x)) := by
      unfold retOK at g3
      cases lg with
      | true =>
        rw [if_neg (by rw [c6]; decide)] at g3
        obtain ⟨w, rfl, hw⟩ := g3
        refine ⟨w, rfl, fun z => (by cases z), fun _ => ?_⟩
        unfold valOK at hw
        rw [c6] at hw
        exact hw
      | false =>
        rw [if_neg (by rw [c6]; decide)] at g3
        obtain ⟨w, rfl, hw⟩ := g3
        refine ⟨w, rfl, fun _ => ?_, fun z => (by cases z)⟩
        unfold valOK at hw
        rw [c6] at hw
        obtain ⟨x, hx, -⟩ := hw
        exact ⟨x, hx⟩
    obtain ⟨w, rfl, hw⟩ := hv
    rw [c1] at y1 g1
    refine ⟨w, h', ⟨_, y, y1, g1⟩, ⟨c, hct, g4⟩, fun r hr => (g4 r (fun z => by
      have := of_decide_eq_true (List.all_eq_true.mp c5 _ z)
      omega)).1, Fr.lw c5 g4 g2 I, hw, fun d r rest hd hr e => ?_⟩
    obtain ⟨d, rfl⟩ : ∃ d', d = d' + 1 := ⟨d - 1, by omega⟩
    exact lc_call hq hk hr y1 y2 (g1.mono (by omega)) e
  · cases hc
