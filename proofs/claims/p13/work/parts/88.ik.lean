
set_option maxRecDepth 20000
def tys_s141 : List TY := [(2, 31, 0), (1, 0, 600)]
def stys_s141 : List TY := []
theorem chk_s141 : sg_check ([(141, 497)], [], []) 141 497 tys_s141 stys_s141 [(2, (0, 0, 0, 0), (([(2, 1, 31), (1, 2, 0)], [], [(0, 0), (1, 0), (600, 600)], []), [(3, 0, (1, 2, 0), (1, 0, 600), 0)], [])),
 (0, (497, 0, 0, 0), (([(2, 1, 31), (1, 2, 1)], [], [(0, 0), (1, 0), (0, 599), (1, 0)], [(1, 31, 11, (2, 3, 41))]), [(2, 0, (1, 2, 0), (1, 0, 600), 0)], [(41, (1, 2, 0), (1, 0, -1))]))] = true := by decide +kernel
theorem s141 {h : Hp} (hT : TInv h) {ls : List (Option Value)} {i : Int} (b_i : 0 ≤ i ∧ i ≤ 600) (hl : LVs [some (rv 31), some (iv i)] ls) :
  ((600 ≤ i ∧ i ≤ 600) ∧ (600 ≤ i) ∧ Nx h h ∧ (∀ dd, 3 ≤ dd → Ev dd 141 (497, ls, [], h, fl_tot) (none, h, fl_tot))) ∨
  (∃ (g1 : Hp), (g1 = wr 41 i (-1) h) ∧ (0 ≤ i ∧ i ≤ 599) ∧ (i < 600) ∧ Nx h g1 ∧ (∃ ls', LVs [some (rv 31), some (iv (i + 1))] ls' ∧ ∀ dd rr, 3 ≤ dd → Ev dd 141 (497, ls', [], g1, fl_tot) rr → Ev dd 141 (497, ls, [], h, fl_tot) rr)) := by
  have H := seg chk_s141 (zs := [i]) (szs := []) hT (show HB tys_s141 [i] from ⟨b_i, trivial⟩) (show HB stys_s141 [] from trivial) hl
  rcases H with ⟨tq, hE, hF, k1, k2⟩ | ⟨tq, hE, hF, k1, ls', k2, k3⟩
  · exact Or.inl ⟨hE 2 (600, 600) rfl (by decide), hF.1, k1, k2⟩
  · exact Or.inr ⟨_, rfl, hE 2 (0, 599) rfl (by decide), hF.1, k1, ls', k2, k3⟩
theorem hp_far {g : Hp} {L : CL} (hc : cmT L = true) {r j : Nat} (hr : 31 ≤ ab_kd r) : (hpL g L).1 r j = g.1 r j := by
  unfold cmT at hc
  rw [Bool.and_eq_true] at hc
  rcases hpI_or (b := g.1) (r := r) (j := j) (l := L.2) with h | ⟨x, x1, x2, x3, x4⟩
  · exact h
  · exfalso
    have hE := List.all_eq_true.mp hc.2 x x1
    unfold cmE at hE
    rw [Bool.and_eq_true, x2, decide_eq_true_eq] at hE
    omega
/-! AT THE START -/
def shB (lk : Nat → Nat → Option Nat) : Bool := (decide (lk 0 0 = some 1) && decide (lk 0 1 = some 208) && decide (lk 0 2 = some 212) && decide (lk 0 3 = some 218) && decide (lk 0 4 = some 222) && decide (lk 1 0 = some 2) && decide (lk 1 1 = some 3) && decide (lk 208 0 = some 1) && decide (lk 208 1 = some 209) && decide (lk 208 2 = some 210) && decide (lk 208 3 = some 211) && decide (lk 212 0 = some 1) && decide (lk 212 1 = some 208) && decide (lk 212 2 = some 213) && decide (lk 212 3 = some 215) && decide (lk 212 4 = some 216) && decide (lk 212 5 = some 217) && decide (lk 213 0 = some 214) && decide (lk 218 0 = some 1) && decide (lk 218 1 = some 208) && decide (lk 218 2 = some 212) && decide (lk 218 3 = some 219) && decide (lk 218 4 = some 220) && decide (lk 218 5 = some 221)) && ((List.range 6).all fun t => decide (lk 2 t = some (4 + 24 * t)) && decide (lk (4 + 24 * t) 0 = some (5 + 24 * t)) && decide (lk (4 + 24 * t) 1 = some (7 + 24 * t)) && decide (lk (4 + 24 * t) 2 = some (8 + 24 * t)) && decide (lk (4 + 24 * t) 3 = some (9 + 24 * t)) && decide (lk (4 + 24 * t) 4 = some (10 + 24 * t)) && decide (lk (4 + 24 * t) 5 = some (11 + 24 * t)) && decide (lk (5 + 24 * t) 0 = some (6 + 24 * t))) && ((List.range 6).all fun t => (List.range 4).all fun s => decide (lk (7 + 24 * t) s = some (12 + 24 * t + 4 * s)) && decide (lk (12 + 24 * t + 4 * s) 2 = some (15 + 24 * t + 4 * s))) && ((List.range 5).all fun c => decide (lk 3 c = some (148 + 12 * c)) && decide (lk (148 + 12 * c) 1 = some (149 + 12 * c)) && decide (lk (148 + 12 * c) 2 = some (150 + 12 * c)) && decide (lk (150 + 12 * c) 0 = some (151 + 12 * c))) && ((List.range 5).all fun c => (List.range 8).all fun i => decide (lk (149 + 12 * c) i = some (152 + 12 * c + i))) && (mrL.all fun p => decide (lk 223 p.1 = some p.2))
theorem shB_ok {lk R : Nat → Nat → Option Nat} (hb : shB lk = true) (hR : ∀ r k v, lk r k = some v → R r k = some v) : SH R := by
  unfold shB at hb
  rw [Bool.and_eq_true, Bool.and_eq_true, Bool.and_eq_true, Bool.and_eq_true, Bool.and_eq_true] at hb
  obtain ⟨⟨⟨⟨⟨b1, b2⟩, b3⟩, b4⟩, b5⟩, b6⟩ := hb
  refine ⟨?_, fun t ht => ?_, fun t ht s hs => ?_, fun c hc => ?_, fun c hc i hi => ?_, fun p hp => ?_⟩
  · simp only [Bool.and_eq_true, decide_eq_true_eq] at b1
    obtain ⟨⟨⟨⟨⟨⟨⟨⟨⟨⟨⟨⟨⟨⟨⟨⟨⟨⟨⟨⟨⟨⟨⟨c1, c2⟩, c3⟩, c4⟩, c5⟩, c6⟩, c7⟩, c8⟩, c9⟩, c10⟩, c11⟩, c12⟩, c13⟩, c14⟩, c15⟩, c16⟩, c17⟩, c18⟩, c19⟩, c20⟩, c21⟩, c22⟩, c23⟩, c24⟩ := b1
    exact ⟨hR _ _ _ c1, hR _ _ _ c2, hR _ _ _ c3, hR _ _ _ c4, hR _ _ _ c5, hR _ _ _ c6, hR _ _ _ c7, hR _ _ _ c8, hR _ _ _ c9, hR _ _ _ c10, hR _ _ _ c11, hR _ _ _ c12, hR _ _ _ c13, hR _ _ _ c14, hR _ _ _ c15, hR _ _ _ c16, hR _ _ _ c17, hR _ _ _ c18, hR _ _ _ c19, hR _ _ _ c20, hR _ _ _ c21, hR _ _ _ c22, hR _ _ _ c23, hR _ _ _ c24⟩
  · have b := List.all_eq_true.mp b2 t (List.mem_range.mpr ht)
    simp only [Bool.and_eq_true, decide_eq_true_eq] at b
    obtain ⟨⟨⟨⟨⟨⟨⟨c1, c2⟩, c3⟩, c4⟩, c5⟩, c6⟩, c7⟩, c8⟩ := b
    exact ⟨hR _ _ _ c1, hR _ _ _ c2, hR _ _ _ c3, hR _ _ _ c4, hR _ _ _ c5, hR _ _ _ c6, hR _ _ _ c7, hR _ _ _ c8⟩
  · have b := List.all_eq_true.mp (List.all_eq_true.mp b3 t (List.mem_range.mpr ht)) s (List.mem_range.mpr hs)
    simp only [Bool.and_eq_true, decide_eq_true_eq] at b
    exact ⟨hR _ _ _ b.1, hR _ _ _ b.2⟩
  · have b := List.all_eq_true.mp b4 c (List.mem_range.mpr hc)
    simp only [Bool.and_eq_true, decide_eq_true_eq] at b
    obtain ⟨⟨⟨c1, c2⟩, c3⟩, c4⟩ := b
    exact ⟨hR _ _ _ c1, hR _ _ _ c2, hR _ _ _ c3, hR _ _ _ c4⟩
  · exact hR _ _ _ (of_decide_eq_true (List.all_eq_true.mp (List.all_eq_true.mp b5 c (List.mem_range.mpr hc)) i (List.mem_range.mpr hi)))
  · exact hR _ _ _ (of_decide_eq_true (List.all_eq_true.mp b6 p hp))
theorem hpI_ex {b : Nat → Nat → Int32} {r j : Nat} : ∀ {l : List (Nat × Nat × Int32)}, (∃ e ∈ l, e.1 = r ∧ e.2.1 = j) → ∃ e ∈ l, e.1 = r ∧ e.2.1 = j ∧ hpI b l r j = e.2.2
  | [], ⟨e, he, _⟩ => by cases he
  | e :: l, ⟨x, hx, x1, x2⟩ => by
    have d : hpI b (e :: l) r j = if r = e.1 ∧ j = e.2.1 then e.2.2 else hpI b l r j := rfl
    rw [d]
    by_cases z : r = e.1 ∧ j = e.2.1
    · exact ⟨e, List.mem_cons_self, z.1.symm, z.2.symm, by rw [if_pos z]⟩
    · rw [if_neg z]
      rcases List.mem_cons.mp hx with rfl | hx
      · exact absurd ⟨x1.symm, x2.symm⟩ z
      · obtain ⟨y, y1, y2⟩ := hpI_ex (b := b) (r := r) (j := j) (l := l) ⟨x, hx, x1, x2⟩
        exact ⟨y, List.mem_cons_of_mem _ y1, y2⟩
def ct_no (l : List (Nat × Nat × Int32)) : Bool := l.all fun e => !(decide (e.1 = 1) && (decide (e.2.1 = 2) || decide (e.2.1 = 3)))
def ct_222 (l : List (Nat × Nat × Int32)) : Bool := let f := l.filter fun e => decide (e.1 = 222); (f.all fun e => decide (e.2.2 = Int32.ofInt (-1))) && ((List.range 600).all fun i => f.any fun e => decide (e.2.1 = i))
def ct_ck4 : Bool := match ct_a with
  | some (false, _, c) => (match ct_b c.2.2.2.1 c.2.2.2.2 with
    | some (false, _, c2) => shB (lkR c2.2.2.2.1.1) && ct_no c2.2.2.2.1.2 && ct_222 c2.2.2.2.1.2
    | _ => false)
  | _ => false
theorem ct_ok4 : ct_ck4 = true := by decide +kernel
theorem c_ini2 {h : Hp} (hT : TInv h) (V : RG h) : ∀ (n : Nat) (i : Int) (ls : List (Option Value)) (h1 : Hp), TInv h1 → Nx h h1 → RG h1 → 600 - i < n → (0 ≤ i ∧ i ≤ 600) → LVs [some (rv 31), some (iv i)] ls → ∃ h', (∀ d, 3 ≤ d → Ev d 141 (497, ls, [], h1, fl_tot) (none, h', fl_tot)) ∧ Nx h h' ∧ RG h' ∧ Fq [41] [] h1 h' ∧ (∀ j, 0 ≤ j → j < i → rd 41 j h' = rd 41 j h1) ∧ (∀ j, i ≤ j → j < 600 → rd 41 j h' = -1) := by
  intro n
  induction n with
  | zero => intro i ls h1 hT1 N G q1 q2; omega
  | succ n ih =>
    intro i ls h1 hT1 N G q1 b_i hl
    rcases s141 hT1 b_i hl with ⟨f0, f1, T, K⟩ | ⟨g1, rfl, f0, f1, T, lv, Hl, K⟩
    · exact ⟨h1, fun d hd => K d (by omega), N, G, Fq.refl _, fun _ _ _ => rfl, fun j j1 j2 => by omega⟩
    · obtain ⟨h', u1, u2, u3, u4, u5, u6⟩ := ih (i + 1) lv _ T.1 (N.trans T) (G.fr ((Fq.refl (Ks := [41]) (fs := []) h1).put 41 i (-1) rfl) rfl) (by omega) (by omega) Hl
      refine ⟨h', fun d hd => K d _ (by omega) (u1 d hd), u2, u3, ((Fq.refl (Ks := [41]) (fs := []) h1).put 41 i (-1) rfl).trans u4, fun j j1 j2 => ?_, fun j j1 j2 => ?_⟩
      · rw [u5 j j1 (by omega), rd_ne j1 (by omega) (by omega)]
      · by_cases hj : j = i
        · rw [hj, u5 i (by omega) (by omega), rd_eq (by decide) (by decide)]
        · exact u6 j (by omega) j2
theorem SU_start {g h' : Hp} {w c w2 c2 : _} (a1 : ct_a = some (false, w, c)) (a4 : ct_b c.2.2.2.1 c.2.2.2.2 = some (false, w2, c2)) (a6 : cmT c2.2.2.2.1 = true) (g0 : ∀ r j, r < 1000 → g.1 r j = 0 ∧ g.2 r j = none) (N : Nx (hpL g c2.2.2.2.1) h') (F : Fq [41] [] (hpL g c2.2.2.2.1) h') (B : ∀ j, 0 ≤ j → j < 600 → rd 41 j h' = -1) : SU h' ∧ CH h' := by
  have h4 := ct_ok4
  unfold ct_ck4 at h4
  rw [a1] at h4
  simp only at h4
  rw [a4] at h4
  simp only [Bool.and_eq_true] at h4
  obtain ⟨⟨k1, k2⟩, k3⟩ := h4
  have low : ∀ r i, r < 223 → h'.1 r i = hpI g.1 c2.2.2.2.1.2 r i := fun r i hr => by
    rw [N.2.2 r (by have := kdl hr; omega)]
    rfl
  have z1 : ∀ k, k = 2 ∨ k = 3 → h'.1 1 k = 0 := fun k hk => by
    rw [low 1 k (by decide)]
    rcases hpI_or (b := g.1) (r := 1) (j := k) (l := c2.2.2.2.1.2) with z | ⟨x, x1, x2, x3, x4⟩
    · rw [z]
      exact (g0 1 k (by decide)).1
    · exfalso
      have := List.all_eq_true.mp k2 x x1
      rw [x2, x3] at this
      rcases hk with rfl | rfl <;> simp at this
  have mz : ∀ K i, 31 ≤ K → K < 93 → (hpL g c2.2.2.2.1).1 (192 + K) i = 0 := fun K i h1 h2 => by
    rw [← xcm h1 h2, hp_far a6 (by rw [xc_kd' h1 h2]; omega)]
    exact (g0 _ i (by rw [xcm h1 h2]; omega)).1
  have m0 : h'.1 223 0 = 0 := (F.fc 0 (by decide)).trans (mz 31 0 (by decide) (by decide))
  have m4 : h'.1 223 4 = 0 := (F.fc 4 (by decide)).trans (mz 31 4 (by decide) (by decide))
  refine ⟨⟨?_, ⟨by rw [z1 2 (Or.inl rfl), m0], by rw [z1 3 (Or.inr rfl), m4]⟩, fun t t6 ht => ?_, fun t t6 ht k hk => ?_, fun c c5 hc => ?_⟩, fun i hi => ?_⟩
  · rw [N.2.1]
    exact shB_ok k1 fun r k v hv => lkR_ok hv
  · exfalso
    rw [z1 2 (Or.inl rfl)] at ht
    have : (t : Int) < 0 := ht
    omega
  · exact (F.c (K := 42) (by decide) (by decide) (by decide) (32 * t + k)).trans (mz 42 _ (by decide) (by decide))
  · exfalso
    rw [z1 3 (Or.inr rfl)] at hc
    have : (c : Int) < 0 := hc
    omega
  · have b := B i (by omega) (by omega)
    rw [xrd (by decide) (by decide)] at b
    have e2 : h'.1 233 i = Int32.ofInt (-1) := Int32.toInt_inj.mp (b.trans (kc (by decide) (by decide)).symm)
    rw [e2, low 222 i (by decide)]
    unfold ct_222 at k3
    simp only [Bool.and_eq_true] at k3
    have ex := List.all_eq_true.mp k3.2 i (List.mem_range.mpr hi)
    obtain ⟨x, x1, x2⟩ := List.any_eq_true.mp ex
    have x3 := List.mem_filter.mp x1
    obtain ⟨y, y1, y2, y3, y4⟩ := hpI_ex (b := g.1) (r := 222) (j := i) (l := c2.2.2.2.1.2) ⟨x, x3.1, of_decide_eq_true x3.2, of_decide_eq_true x2⟩
    rw [y4]
    exact of_decide_eq_true (List.all_eq_true.mp k3.1 y (List.mem_filter.mpr ⟨y1, decide_eq_true y2⟩))
