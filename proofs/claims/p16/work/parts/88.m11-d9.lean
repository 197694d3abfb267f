
set_option maxRecDepth 20000
/-! WHAT A RUN LEFT IS KEPT -/
theorem RQ2.off {h : Hp} (b : h.1 223 13 = Int32.ofInt 0) : RQ2 h := fun z => absurd (by rw [b]; decide) z
def rqMods (mods : List Nat) : Bool := mods.all fun z => z == 1 || z == 14
theorem kd_rq : ((List.range 1010).all fun r => (!(ab_kd r == 1) || r == 0) && (!(ab_kd r == 14) || (decide (r < 148) && r % 24 == 11))) = true := by decide +kernel
theorem kd_rq1 {mods : List Nat} (hm : rqMods mods = true) {r : Nat} (hr : r < 1010) (n0 : r ≠ 0) (n1 : ¬ (r < 148 ∧ r % 24 = 11)) : ab_kd r ∉ mods := fun z => by
  have a := List.all_eq_true.mp hm _ z
  have k := List.all_eq_true.mp kd_rq r (List.mem_range.mpr hr)
  simp only [Bool.or_eq_true, Bool.and_eq_true, Bool.not_eq_true', beq_iff_eq, decide_eq_true_eq, beq_eq_false_iff_ne] at a k
  rcases a with a | a
  · rcases k.1 with b | b
    · exact b a
    · exact n0 b
  · rcases k.2 with b | b
    · exact b a
    · exact n1 b
/-- a method of the class's -/
theorem RQ2.x {h h' : Hp} {mods : List Nat} (Q : RQ2 h) (F : Fr mods h h') (hm : rqMods mods = true) (big : ∀ r : Nat, 223 ≤ r → r < 285 → h'.1 r = h.1 r) (S' : SH h'.2) (T : TInv h') : RQ2 h' := fun z => by
  have b23 := big 223 (by decide) (by decide)
  rw [b23] at z
  obtain ⟨g, st, G, R, tl⟩ := Q z
  refine ⟨g, st, G, RR.out3 G R S' S' (fun r j hr n => ?_) (fun r j h1 h2 => ?_) (fun r j h1 h2 h3 => by rw [(F r (kd_rq1 hm (by omega) (by omega) (by omega))).2]) (fun K j kk => ?_) T, ?_⟩
  · rw [(F r (kd_rq1 hm hr (by omega) (by omega))).1]
  · rw [(F r (kd_rq1 hm (by omega) (by omega) (by omega))).2]
  · rw [big K (by omega) (by omega)]
  · rw [(F 208 (kd_rq1 hm (by omega) (by omega) (by omega))).1, b23]
    exact tl
/-- a method of the reference's -/
theorem RQ2.m {h h' : Hp} (Q : RQ2 h) (F : Fq oKs oFs h h') (Rr : Rf h h') (T : TInv h') : RQ2 h' := fun z => by
  have low : ∀ r i, r < 223 → h'.1 r i = h.1 r i := fun r i hr => by rw [Rr.2 r (by have := kdl hr; omega)]
  have hb : ∀ K ∈ oKs, 82 ≤ K := by decide
  have mm : ∀ r i, 224 ≤ r → r ≤ 273 → h'.1 r i = h.1 r i := fun r i h1 h2 => by
    have := F.c (K := r - 192) (by omega) (by omega) (fun z => by have := hb _ z; omega) i
    rw [show 192 + (r - 192) = r by omega] at this
    exact this
  rw [F.fc 13 (by decide)] at z
  obtain ⟨g, st, G, R, tl⟩ := Q z
  have S' : SH h'.2 := by rw [Rr.1]; exact R.1.1.1
  have st' : ∀ r i, 1000 ≤ r → r < 1010 → h'.1 r i = h.1 r i := fun r i h1 h2 => by
    rw [Rr.2 r (by
      have k : ((List.range 10).all fun k => decide (ab_kd (1000 + k) = 0)) = true := by decide +kernel
      have := of_decide_eq_true (List.all_eq_true.mp k (r - 1000) (List.mem_range.mpr (by omega)))
      rw [show 1000 + (r - 1000) = r by omega] at this
      omega)]
  refine ⟨g, st, G, RR.out3 G R S' S' (fun r j hr n => ?_) (fun r j h1 h2 => by rw [Rr.1]) (fun r j _ _ _ => by rw [Rr.1]) (fun K j kk => ?_) T, ?_⟩
  · by_cases y : r < 223
    · exact low r j y
    · exact st' r j (by omega) hr
  · rcases kk with ⟨rfl, rfl | rfl | rfl | rfl⟩ | kk
    · exact F.fc 0 (by decide)
    · exact F.fc 4 (by decide)
    · exact F.fc 15 (by decide)
    · exact F.fc 16 (by decide)
    · exact mm K j (by omega) (by omega)
  · rw [low 208 6 (by decide), F.fc 14 (by decide)]
    exact tl
/-- behind a run, or an exploring -/
theorem RQ2.of {g h1 h2 hx : Hp} {st : Nat} {u : Int32} (G : GS g) (e1 : h1 = fl_setI hx 0 5 (Int32.ofInt 1)) (R : RR g hx h2 st) (e6 : hx.1 208 6 = u) (e14 : h2.1 223 14 = u) (Rr : Rf h1 h2) : RQ2 h2 := fun _ => by
  have low : ∀ r i, 1 ≤ r → r < 223 → h2.1 r i = hx.1 r i := fun r i h0 hr => by rw [Rr.2 r (by have := kdl hr; omega), e1, setI_no (by omega)]
  have r2 : h2.2 = hx.2 := by rw [Rr.1, e1]; rfl
  have k : ((List.range 10).all fun k => decide (ab_kd (1000 + k) = 0)) = true := by decide +kernel
  have S' : SH h2.2 := by rw [r2]; exact R.1.1.1
  refine ⟨g, st, G, RR.out3 G R S' S' (fun r j hr n => ?_) (fun r j h1 h2 => by rw [r2]) (fun r j _ _ _ => by rw [r2]) (fun _ _ _ => rfl) R.1.2.2.2.2, ?_⟩
  · by_cases y : r < 223
    · exact low r j (by omega) y
    · have := of_decide_eq_true (List.all_eq_true.mp k (r - 1000) (List.mem_range.mpr (by omega)))
      rw [show 1000 + (r - 1000) = r by omega] at this
      rw [Rr.2 r (by omega), e1, setI_no (by omega)]
  · rw [low 208 6 (by decide) (by decide), e6, e14]
/-- order on both sides -/
theorem act_no {h : Hp} {tk : Nat → Nat} (x : Nat) (hx : x < 40) : Int32.ofInt 8 * Int32.ofNat (x / 8) + Int32.ofNat (x % 8) = Int32.ofNat x := of_decide_eq_true (List.all_eq_true.mp (show ((List.range 40).all fun x => decide (Int32.ofInt 8 * Int32.ofNat (x / 8) + Int32.ofNat (x % 8) = Int32.ofNat x)) = true by decide +kernel) x (List.mem_range.mpr hx))
theorem act_at {h h1 hm : Hp} {d M : Nat} {tk pl : Nat → Nat} {k : Nat} {r : Option Value × Hp × Nat} (S : SH h.2) (m12 : M ≤ 12) (e9 : h.1 212 9 = Int32.ofNat M) (km : k < M) (A : ∀ k : Nat, k < M → tk k < 40 ∧ h.2 215 k = some (152 + 12 * (tk k / 8) + tk k % 8)) (B : ∀ d : Nat, d < M → pl d < M ∧ h.1 217 d = Int32.ofNat (pl d)) (N : ∀ c j : Nat, c < 5 → j < 8 → h.1 (152 + 12 * c + j) 0 = Int32.ofNat c ∧ h.1 (152 + 12 * c + j) 1 = Int32.ofNat j) (e : Ev d 126 (0, [some (.ref 212), some (.int (Int32.ofNat k)), none], [], h, fl_tot) r) : r = (some (.int (Int32.ofNat (tk (pl k)))), h, fl_tot) := by
  have ek := i32n (n := k) (by omega)
  have ekn : (Int32.ofNat k).toNatClampNeg = k := o32c (by omega)
  have eM := i32n (n := M) (by omega)
  obtain ⟨b1, b2⟩ := B k km
  have ep := i32n (n := pl k) (by omega)
  have epn : (Int32.ofNat (pl k)).toNatClampNeg = pl k := o32c (by omega)
  obtain ⟨a1, a2⟩ := A (pl k) b1
  have W := ye_aa_0 S e
  rw [e9, ekn, b2] at W
  rcases W with ⟨y, -⟩ | ⟨-, -, y, -⟩ | ⟨-, -, -, -, e⟩ | ⟨-, -, -, y, -⟩ | ⟨-, y, -⟩
  · exfalso; omega
  · exfalso; omega
  · obtain ⟨-, -, -, e⟩ := b15 e (show fl_code 126 42 = some (15, [], 43) by decide +kernel) (show fl_lay 215 = (30, 12) by decide +kernel) (b := 152 + 12 * (tk (pl k) / 8) + tk (pl k) % 8) (fun _ => by rw [epn]; exact a2)
    have e := ye_aa_1 (c := tk (pl k) / 8) (j := tk (pl k) % 8) S (by omega) (by omega) e
    obtain ⟨-, -, -, e⟩ := b15 e (show fl_code 126 52 = some (15, [], 53) by decide +kernel) (show fl_lay 215 = (30, 12) by decide +kernel) (b := 152 + 12 * (tk (pl k) / 8) + tk (pl k) % 8) (fun _ => by rw [epn]; exact a2)
    have w := ye_aa_2 (c := tk (pl k) / 8) (j := tk (pl k) % 8) S (by omega) (by omega) e
    obtain ⟨n1, n2⟩ := N (tk (pl k) / 8) (tk (pl k) % 8) (by omega) (by omega)
    rw [n1, n2, act_no (h := h) (tk := tk) (tk (pl k)) a1] at w
    exact w
  · exfalso; omega
  · exfalso; omega
