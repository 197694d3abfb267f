
set_option maxRecDepth 20000
/-! STEPS ON BOTH SIDES: a MAP -/
theorem kd_str1 : ((List.range 1000).all fun r => !(ab_kd r == 8 || ab_kd r == 9 || ab_kd r == 10) || (decide (12 ≤ r) && decide (r < 148) && decide (8 ≤ (r - 4) % 24))) = true := by decide +kernel
theorem kd_str {r : Nat} (h : ab_kd r = 8 ∨ ab_kd r = 9 ∨ ab_kd r = 10) : 12 ≤ r ∧ r < 148 ∧ 8 ≤ (r - 4) % 24 := by
  by_cases hr : r < 1000
  · have := List.all_eq_true.mp kd_str1 r (List.mem_range.mpr hr)
    simp only [Bool.or_eq_true, Bool.not_eq_true', Bool.or_eq_false_iff, beq_eq_false_iff_ne, Bool.and_eq_true, decide_eq_true_eq] at this
    rcases this with z | z
    · omega
    · exact ⟨z.1.1, z.1.2, z.2⟩
  · exfalso
    unfold ab_kd at h
    rw [if_neg hr] at h
    split at h <;> omega
theorem lay_str1 : ((List.range 148).all fun r => !(decide (12 ≤ r) && decide (8 ≤ (r - 4) % 24) && decide (r % 4 = 0)) || decide ((fl_lay r).1 = 7)) = true := by decide +kernel
theorem kd_stripe {t s : Nat} (ht : t < 6) (hs : s < 4) : ab_kd (12 + 24 * t + 4 * s) = 8 := of_decide_eq_true (List.all_eq_true.mp (List.all_eq_true.mp (show ((List.range 6).all fun t => (List.range 4).all fun s => decide (ab_kd (12 + 24 * t + 4 * s) = 8)) = true by decide +kernel) t (List.mem_range.mpr ht)) s (List.mem_range.mpr hs))
theorem OPm.of {h m1 : Hp} {m d : Nat} {L : List (Option Value)} {S : List Nat} (hS : srChk S = true) (hm : S.contains m = true) (e : Ev d m (0, L, [], h, fl_tot) (none, m1, fl_tot)) (F : Fr [8, 9, 10] h m1) : OPm h m1 := by
  refine ⟨fun r j z => ?_, fun r j z => ?_⟩
  · rw [(F r (fun y => z (kd_str (by simp only [List.mem_cons, List.not_mem_nil, or_false] at y; exact y)))).1]
  · by_cases y : ab_kd r ∈ [8, 9, 10]
    · have q := kd_str (r := r) (by simp only [List.mem_cons, List.not_mem_nil, or_false] at y; exact y)
      have q2 : r % 4 = 0 ∧ j = 2 := by omega
      have l := List.all_eq_true.mp lay_str1 r (List.mem_range.mpr q.2.1)
      rw [decide_eq_true q.1, decide_eq_true q.2.2, decide_eq_true q2.1] at l
      have l7 : (fl_lay r).1 = 7 := by simpa using l
      rw [q2.2]
      exact (sr_ev hS hm e).2 r 2 (by rw [l7]; decide)
    · rw [(F r y).2]
theorem xcon {j m nL : Nat} {c : CT} {as : List Value} {h : Hp} {L : List (Option Value)} (hct : ab_cts[j]? = some c) (hm : c.1 = m) (hp : c.2.2.2.2.2.1 = []) (hv : c.2.2.2.1 = (9, 0, 0)) (hT : TInv h) (ha : aOK c.2.2.1 as) (hy : ((sm_ms[m]?).map fun y => y.2.2.1) = some nL) (hL : fl_enter nL as = L) : ∃ m1 d0, Ev d0 m (0, L, [], h, fl_tot) (none, m1, fl_tot) ∧ (∀ (d : Nat) (r : Option Value × Hp × Nat), Ev d m (0, L, [], h, fl_tot) r → r = (none, m1, fl_tot)) ∧ TInv m1 ∧ Fr c.2.2.2.2.1 h m1 := by
  obtain ⟨y, y1, y2, v, h', g1, g2, g3, g4, -⟩ := cv_all hct as h hT ha (fun p hp' => by rw [hp] at hp'; cases hp')
  rw [hm] at y1 g1
  have hn : y.2.2.1 = nL := by
    rw [y1] at hy
    exact Option.some.inj hy
  rw [hn, hL] at g1
  unfold retOK at g3
  rw [hv, if_pos rfl] at g3
  subst g3
  exact ⟨h', _, g1, fun d r e => ev_det e g1, g2, g4⟩
theorem x_mv {h : Hp} {t s : Nat} (hT : TInv h) (ht : t < 6) (hs : s < 4) : ∃ m1, (∀ (d : Nat) (r : Option Value × Hp × Nat), Ev d 49 (0, [some (.ref (12 + 24 * t + 4 * s)), none, none, none, none], [], h, fl_tot) r → r = (none, m1, fl_tot)) ∧ TInv m1 ∧ OPm h m1 := by
  obtain ⟨m1, d0, e0, e1, e2, e3⟩ := xcon (j := 38) (m := 49) (nL := 5) (as := [.ref (12 + 24 * t + 4 * s)]) (h := h) (L := [some (.ref (12 + 24 * t + 4 * s)), none, none, none, none]) (show ab_cts[38]? = some (49, 1, [(2, 8, 0)], (9, 0, 0), [8, 9, 10], [], []) by rfl) rfl rfl rfl hT ⟨_, _, rfl, ⟨_, rfl, kd_stripe ht hs⟩, rfl⟩ (by decide +kernel) rfl
  exact ⟨m1, e1, e2, OPm.of (S := [49, 50]) (by decide +kernel) (by decide) e0 e3⟩
theorem x_to {h : Hp} {t s : Nat} {k : Int32} (hT : TInv h) (ht : t < 6) (hs : s < 4) (hk : 0 ≤ k.toInt ∧ k.toInt ≤ 7) : ∃ m1, (∀ (d : Nat) (r : Option Value × Hp × Nat), Ev d 67 (0, [some (.ref (12 + 24 * t + 4 * s)), some (.int k), none, none, none, none, none, none], [], h, fl_tot) r → r = (none, m1, fl_tot)) ∧ TInv m1 ∧ OPm h m1 := by
  obtain ⟨m1, d0, e0, e1, e2, e3⟩ := xcon (j := 54) (m := 67) (nL := 8) (as := [.ref (12 + 24 * t + 4 * s), .int k]) (h := h) (L := [some (.ref (12 + 24 * t + 4 * s)), some (.int k), none, none, none, none, none, none]) (show ab_cts[54]? = some (67, 0, [(2, 8, 0), (1, 0, 7)], (9, 0, 0), [8, 9, 10], [], []) by rfl) rfl rfl rfl hT ⟨_, _, rfl, ⟨_, rfl, kd_stripe ht hs⟩, ⟨_, _, rfl, ⟨_, rfl, hk.1, hk.2⟩, rfl⟩⟩ (by decide +kernel) rfl
  exact ⟨m1, e1, e2, OPm.of (S := [67]) (by decide +kernel) (by decide) e0 e3⟩
theorem x_ad {h : Hp} {t s : Nat} {k : Int32} (hT : TInv h) (ht : t < 6) (hs : s < 4) (hk : 0 ≤ k.toInt ∧ k.toInt ≤ 7) : ∃ m1, (∀ (d : Nat) (r : Option Value × Hp × Nat), Ev d 69 (0, [some (.ref (12 + 24 * t + 4 * s)), some (.int k), none, none], [], h, fl_tot) r → r = (none, m1, fl_tot)) ∧ TInv m1 ∧ OPm h m1 := by
  obtain ⟨m1, d0, e0, e1, e2, e3⟩ := xcon (j := 56) (m := 69) (nL := 4) (as := [.ref (12 + 24 * t + 4 * s), .int k]) (h := h) (L := [some (.ref (12 + 24 * t + 4 * s)), some (.int k), none, none]) (show ab_cts[56]? = some (69, 0, [(2, 8, 0), (1, 0, 7)], (9, 0, 0), [8, 9, 10], [], []) by rfl) rfl rfl rfl hT ⟨_, _, rfl, ⟨_, rfl, kd_stripe ht hs⟩, ⟨_, _, rfl, ⟨_, rfl, hk.1, hk.2⟩, rfl⟩⟩ (by decide +kernel) rfl
  exact ⟨m1, e1, e2, OPm.of (S := [69]) (by decide +kernel) (by decide) e0 e3⟩
theorem KFX.opm {c i t : Nat} {h m1 : Hp} (F : OPm h m1) : KFX c i t h m1 := ⟨fun r j _ _ z => F.1 r j (fun y => z (Or.inr y)), fun r j _ z => F.2 r j z⟩
/-- what moves and puts leave alone in the reference -/
def MF2 (h m2 : Hp) : Prop := (∀ K j : Nat, 223 ≤ K → ¬ (255 ≤ K ∧ K ≤ 259) → ¬ (266 ≤ K ∧ K ≤ 270) → ¬ (K = 223 ∧ j = 42) → m2.1 K j = h.1 K j) ∧ m2.2 = h.2
theorem Fq.mf2 {Ks : List Nat} {h m2 : Hp} (F : Fq Ks [42] h m2) (hK : ∀ K ∈ Ks, 63 ≤ K ∧ K ≤ 67 ∨ 74 ≤ K ∧ K ≤ 78) (R : Rf h m2) : MF2 h m2 := by
  refine ⟨fun K j h1 h2 h3 h4 => ?_, R.1⟩
  by_cases y : K = 223
  · subst y
    exact F.fc j (by simp; omega)
  · by_cases y2 : K < 285
    · have := F.c (K := K - 192) (by omega) (by omega) (fun z => by have := hK _ z; omega) j
      rw [show 192 + (K - 192) = K by omega] at this
      exact this
    · rw [R.2 K (by
        intro z
        have := xc_of z.1 z.2
        have x := xcm (K := ab_kd K) z.1 z.2
        omega)]
theorem ckey {a : Nat} (h : a < 32) : (0 ≤ (((Int32.ofNat a) >>> ((Int32.ofInt 2) &&& 31)) &&& (Int32.ofInt 7)).toInt ∧ (((Int32.ofNat a) >>> ((Int32.ofInt 2) &&& 31)) &&& (Int32.ofInt 7)).toInt ≤ 7) ∧ ((Int32.ofNat a) &&& (Int32.ofInt 3)).toNatClampNeg < 4 := of_decide_eq_true (List.all_eq_true.mp (show ((List.range 32).all fun a => decide ((0 ≤ (((Int32.ofNat a) >>> ((Int32.ofInt 2) &&& 31)) &&& (Int32.ofInt 7)).toInt ∧ (((Int32.ofNat a) >>> ((Int32.ofInt 2) &&& 31)) &&& (Int32.ofInt 7)).toInt ≤ 7) ∧ ((Int32.ofNat a) &&& (Int32.ofInt 3)).toNatClampNeg < 4)) = true by decide +kernel) a (List.mem_range.mpr h))
theorem z_mv {h : Hp} {t a : Nat} (hT : TInv h) (t6 : t < 6) (a32 : a < 32) (M : MP h) (hk : (h.1 224 t).toInt = 0) (hs : 0 ≤ rd 31 42 h ∧ rd 31 42 h ≤ 90000) : ∃ m2, (∀ (d : Nat) (r : Option Value × Hp × Nat), Ev d 162 (0, [some (.ref 223), some (.int (Int32.ofNat t)), some (.int (Int32.ofNat a)), none, none, none, none], [], h, fl_tot) r → r = (none, m2, fl_tot)) ∧ TInv m2 ∧ MF2 h m2 ∧ (∀ j : Nat, m2.1 255 j = h.1 255 j) ∧ (∀ j : Nat, m2.1 256 j = h.1 256 j) := by
  obtain ⟨m2, e1, e2, e3, -, -, -⟩ := c_moves hT (t := t) (key := a) (by omega) (by omega) M (by rw [xrd (by decide) (by decide)]; exact hk) hs
  have e1 := e1 5 (Nat.le_refl _)
  rw [rv31] at e1
  exact ⟨m2, fun d r e => ev_det e (show Ev 5 162 (0, [some (.ref 223), some (.int (Int32.ofNat t)), some (.int (Int32.ofNat a)), none, none, none, none], [], h, fl_tot) _ from e1), e2.1, e3.mf2 (by decide) e2.2, fun j => e3.c (K := 63) (by decide) (by decide) (by decide) j, fun j => e3.c (K := 64) (by decide) (by decide) (by decide) j⟩
theorem i4mk {t a : Nat} (ht : t < 6) (ha : a < 32) : (Int32.ofInt 4) * Int32.ofNat t + (Int32.ofNat a - Int32.ofNat a / (Int32.ofInt 4) * (Int32.ofInt 4)) = Int32.ofInt (4 * (t : Int) + (a : Int) % 4) := of_decide_eq_true (List.all_eq_true.mp (List.all_eq_true.mp (show ((List.range 6).all fun t => (List.range 32).all fun a => decide ((Int32.ofInt 4) * Int32.ofNat t + (Int32.ofNat a - Int32.ofNat a / (Int32.ofInt 4) * (Int32.ofInt 4)) = Int32.ofInt (4 * (t : Int) + (a : Int) % 4))) = true by decide +kernel) t (List.mem_range.mpr ht)) a (List.mem_range.mpr ha))
theorem i32e {t a : Nat} (ht : t < 6) (ha : a < 32) : (Int32.ofInt 32) * Int32.ofNat t + Int32.ofNat a = Int32.ofInt (32 * (t : Int) + (a : Int)) := by
  rw [show Int32.ofInt 32 = Int32.ofInt ((32 : Nat) : Int) from rfl, ofN (N := 32) (by decide) (by omega) (by omega)]
  exact congrArg Int32.ofInt (show (((32 * t + a : Nat)) : Int) = 32 * (t : Int) + (a : Int) by omega)
theorem z_pu {h : Hp} {t a : Nat} (v : Int32) (hT : TInv h) (t6 : t < 6) (a32 : a < 32) (M : MP h) (S : SH h.2) (hk : (h.1 224 t).toInt = 0) (hs : 0 ≤ rd 31 42 h ∧ rd 31 42 h ≤ 90000) : ∃ m2, (∀ (d : Nat) (r : Option Value × Hp × Nat), Ev d 170 (0, [some (.ref 223), some (.int (Int32.ofNat t)), some (.int (Int32.ofNat a)), some (.int v), none, none], [], h, fl_tot) r → r = (none, m2, fl_tot)) ∧ TInv m2 ∧ MF2 h m2 ∧ (∀ j : Nat, m2.1 255 j = if j = 32 * t + a then Int32.ofInt 1 else h.1 255 j) ∧ (∀ j : Nat, m2.1 256 j = if j = 32 * t + a then v else h.1 256 j) := by
  have tn : (Int32.ofNat t).toNatClampNeg = t := o32c (by omega)
  obtain ⟨H1, eH1⟩ : ∃ z, z = fl_setI (fl_setI h 256 (32 * t + a) v) 255 (32 * t + a) (Int32.ofInt 1) := ⟨_, rfl⟩
  have T1 : TInv H1 := by rw [eH1]; exact (hT.full 256 _ _ (by decide +kernel) (by decide +kernel)).a 255 _ 0 1 (by decide +kernel) (by decide +kernel) (by decide)
  have F1 : ∀ K j : Nat, K ≠ 255 → K ≠ 256 → H1.1 K j = h.1 K j := fun K j h1 h2 => by rw [eH1, setI_no (by omega), setI_no (by omega)]
  have a1 : ∀ j : Nat, H1.1 255 j = if j = 32 * t + a then Int32.ofInt 1 else h.1 255 j := fun j => by
    rw [eH1]
    by_cases y : j = 32 * t + a
    · rw [if_pos y, y, setI_at]
    · rw [if_neg y, setI_no (by omega), setI_no (by omega)]
  have a2 : ∀ j : Nat, H1.1 256 j = if j = 32 * t + a then v else h.1 256 j := fun j => by
    rw [eH1, setI_no (by omega)]
    by_cases y : j = 32 * t + a
    · rw [if_pos y, y, setI_at]
    · rw [if_neg y, setI_no (by omega)]
  by_cases hh : (h.1 255 (32 * t + a)).toInt = 0
  · have M1 := M.has (v := v.toInt) (t := t) (key := a) (by omega) (by omega)
    have eW : wr 63 (32 * (t : Int) + a) 1 (wr 64 (32 * (t : Int) + a) v.toInt h) = H1 := by
      unfold wr
      rw [xcm (by decide) (by decide), xcm (by decide) (by decide), eH1, Int32.ofInt_toInt, show (32 * (t : Int) + a).toNat = 32 * t + a by omega]
    rw [eW] at M1
    have r42 : rd 31 42 H1 = rd 31 42 h := by
      have z := xrd (K := 31) (by decide) (by decide) 42
      show rd 31 ((42 : Nat) : Int) H1 = rd 31 ((42 : Nat) : Int) h
      rw [z, z, F1 _ _ (by decide) (by decide)]
    obtain ⟨m2, e1, e2, e3, -, -⟩ := c_puts_a T1 (t := t) (key := a) (v := v.toInt) (by omega) (by omega) ⟨Int32.le_toInt v, Int32.toInt_le v⟩ M1 (by rw [r42]; omega) (LVs.self [some (rv 31), some (iv t), some (iv a), some (iv v.toInt), some (iv (32 * (t : Int) + a)), some (iv (4 * (t : Int) + (a : Int) % 4))])
    have e1 := e1 4 (Nat.le_refl _)
    have MF := e3.mf2 (by decide) e2.2
    refine ⟨m2, fun d r e => ?_, e2.1, ⟨fun K j h1 h2 h3 h4 => (MF.1 K j h1 h2 h3 h4).trans (F1 K j (by omega) (by omega)), MF.2.trans (by rw [eH1]; rfl)⟩, fun j => (e3.c (K := 63) (by decide) (by decide) (by decide) j).trans (a1 j), fun j => (e3.c (K := 64) (by decide) (by decide) (by decide) j).trans (a2 j)⟩
    have Z := z_puts_map S (by rw [tn]; exact hk) e
    rw [i32k (by omega) (by omega), i32e t6 a32, i4mk t6 a32, ← eH1] at Z
    rcases Z with ⟨q, -⟩ | ⟨-, -, e⟩
    · exact absurd hh q
    · have e9 : Ev 4 170 (60, [some (rv 31), some (iv t), some (iv a), some (iv v.toInt), some (iv (32 * (t : Int) + a)), some (iv (4 * (t : Int) + (a : Int) % 4))], [], H1, fl_tot) (none, m2, fl_tot) := e1
      rw [rv31, show iv v.toInt = .int v by unfold iv; rw [Int32.ofInt_toInt]] at e9
      exact ev_det e e9
  · refine ⟨H1, fun d r e => ?_, T1, ⟨fun K j h1 h2 h3 h4 => F1 K j (by omega) (by omega), by rw [eH1]; rfl⟩, a1, a2⟩
    have Z := z_puts_map S (by rw [tn]; exact hk) e
    rw [i32k (by omega) (by omega), ← eH1] at Z
    rcases Z with ⟨-, e⟩ | ⟨q, -⟩
    · exact e
    · exact absurd q hh

theorem KFM.mf2 {h m2 : Hp} {c i t : Nat} (M : MF2 h m2) (a : ∀ j : Nat, ¬ (32 * t ≤ j ∧ j < 32 * t + 32) → m2.1 255 j = h.1 255 j ∧ m2.1 256 j = h.1 256 j) : KFM c i t h m2 := by
  refine ⟨fun K j z0 z1 z2 z3 z4 z5 z6 z7 z8 z9 => ?_, M.2⟩
  by_cases y : K = 255
  · subst y
    exact (a j (by omega)).1
  · by_cases y2 : K = 256
    · subst y2
      exact (a j (by omega)).2
    · exact M.1 K j z0 (by omega) (by omega) (by omega)
