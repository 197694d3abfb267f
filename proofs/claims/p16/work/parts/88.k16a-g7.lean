
set_option maxRecDepth 20000
/-! STRIPES: an act of a map, in the relation -/
theorem i4s {t s q : Nat} (hs : s < 4) : Int32.ofInt (4 * (t : Int) + ((4 * q + s : Nat) : Int) % 4) = Int32.ofNat (4 * t + s) := congrArg Int32.ofInt (show 4 * (t : Int) + ((4 * q + s : Nat) : Int) % 4 = ((4 * t + s : Nat) : Int) by omega)
theorem MP.st {h : Hp} (TM : TInv h) (M : MP h) {t s q : Nat} (t6 : t < 6) (s4 : s < 4) (q8 : q < 8) (k : (h.1 224 t).toInt = 0) (hz : kH h t s q ≠ 0) : kS h t s q ≤ (h.1 223 42).toInt := by
  have b := TI.rng TM 63 192 0 1 (by decide +kernel) (by decide) (by decide) (i := 32 * t + (4 * q + s)) (by omega)
  have b : 0 ≤ kH h t s q ∧ kH h t s q ≤ 1 := b
  have ec : 32 * (t : Int) + ((4 * q + s : Nat) : Int) = ((32 * t + (4 * q + s) : Nat) : Int) := by omega
  have e1 : rd 63 (32 * (t : Int) + ((4 * q + s : Nat) : Int)) h = 1 := by
    rw [ec, xrd (by decide) (by decide)]
    show kH h t s q = 1
    omega
  have c := (M.2.1 t ((4 * q + s : Nat) : Int) (by omega) (by omega) (by rw [xrd (by decide) (by decide)]; exact k) (by omega) (by omega) (by omega) e1).2.2.2
  rw [ec, xrd (by decide) (by decide)] at c
  have c2 : rd 31 42 h = (h.1 223 42).toInt := xrd (K := 31) (by decide) (by decide) 42 h
  rw [c2] at c
  exact c
theorem sum4_s {h h' : Hp} {t s k : Nat} {x : Int32} (hs : s < 4) (e : h'.1 (12 + 24 * t + 4 * s) k = h.1 (12 + 24 * t + 4 * s) k + x) (o : ∀ u, u < 4 → u ≠ s → h'.1 (12 + 24 * t + 4 * u) k = h.1 (12 + 24 * t + 4 * u) k) : sum4 h' t k = sum4 h t k + x := by
  have e0 : 12 + 24 * t + 4 * 0 = 12 + 24 * t := by omega
  have e1 : 12 + 24 * t + 4 * 1 = 16 + 24 * t := by omega
  have e2 : 12 + 24 * t + 4 * 2 = 20 + 24 * t := by omega
  have e3 : 12 + 24 * t + 4 * 3 = 24 + 24 * t := by omega
  have c : s = 0 ∨ s = 1 ∨ s = 2 ∨ s = 3 := by omega
  unfold sum4
  rcases c with rfl | rfl | rfl | rfl
  · have o1 := o 1 (by decide) (by decide)
    have o2 := o 2 (by decide) (by decide)
    have o3 := o 3 (by decide) (by decide)
    rw [e0] at e
    rw [e1] at o1
    rw [e2] at o2
    rw [e3] at o3
    rw [e, o1, o2, o3]
    ac_rfl
  · have o1 := o 0 (by decide) (by decide)
    have o2 := o 2 (by decide) (by decide)
    have o3 := o 3 (by decide) (by decide)
    rw [e1] at e
    rw [e0] at o1
    rw [e2] at o2
    rw [e3] at o3
    rw [e, o1, o2, o3]
    ac_rfl
  · have o1 := o 0 (by decide) (by decide)
    have o2 := o 1 (by decide) (by decide)
    have o3 := o 3 (by decide) (by decide)
    rw [e2] at e
    rw [e0] at o1
    rw [e1] at o2
    rw [e3] at o3
    rw [e, o1, o2, o3]
    ac_rfl
  · have o1 := o 0 (by decide) (by decide)
    have o2 := o 1 (by decide) (by decide)
    have o3 := o 2 (by decide) (by decide)
    rw [e3] at e
    rw [e0] at o1
    rw [e1] at o2
    rw [e2] at o3
    rw [e, o1, o2, o3]
    ac_rfl
theorem STR.op {g h h' hm hm' : Hp} {T s : Nat} (q6 : qt g ≤ 6) (hT : T < qt g) (s4 : s < 4) (A : STR g h hm) (N : STS h' hm' T s) (F : FXs T s h h') (m1 : ∀ K j : Nat, (K = 255 ∨ 257 ≤ K ∧ K ≤ 259) → ¬ (32 * T ≤ j ∧ j < 32 * T + 32 ∧ j % 4 = s) → hm'.1 K j = hm.1 K j) (m2 : ∀ K j : Nat, 266 ≤ K → K ≤ 268 → j ≠ 4 * T + s → hm'.1 K j = hm.1 K j) (m3 : ∀ j : Nat, j ≠ T → hm'.1 269 j = hm.1 269 j ∧ hm'.1 270 j = hm.1 270 j) (U : SUx T s h hm h' hm') : STR g h' hm' := by
  obtain ⟨A0, A1⟩ := A
  obtain ⟨F1, F2⟩ := F
  refine ⟨fun t ht u hu => ?_, fun t ht k => ?_⟩
  · by_cases e : t = T ∧ u = s
    · obtain ⟨rfl, rfl⟩ := e
      obtain ⟨a, b, n, rm, ab, w, -⟩ := N
      rcases ab with ⟨rfl, rfl⟩ | ⟨rfl, rfl⟩
      · exact Or.inl ⟨w.1, w.2.1⟩
      · exact Or.inr ⟨w.1, w.2.1⟩
    · rw [F2 _ _ (by omega), F2 _ _ (by omega)]
      exact A0 t ht u hu
  · obtain ⟨a, b, c⟩ := A1 t ht k
    by_cases et : t = T
    · subst et
      obtain ⟨⟨x, x1, x2⟩, y, y1, y2⟩ := U
      refine ⟨fun u hu => ?_, ?_, ?_⟩
      · by_cases e : u = s
        · rw [e]; exact N
        · exact (a u hu).fr (fun r j h1 h2 => F1 r j (by omega)) (fun j => F2 _ j (by omega)) (fun K q hK hq => m1 K _ hK (by omega)) (fun K h1 h2 => m2 K _ h1 h2 (by omega))
      · rw [sum4_s s4 x1 (fun u hu e => F1 _ _ (by omega)), x2, b]
      · rw [sum4_s s4 y1 (fun u hu e => F1 _ _ (by omega)), y2, c]
    · refine ⟨fun u hu => (a u hu).fr (fun r j h1 h2 => F1 r j (by omega)) (fun j => F2 _ j (by omega)) (fun K q hK hq => m1 K _ hK (by omega)) (fun K h1 h2 => m2 K _ h1 h2 (by omega)), ?_, ?_⟩
      · unfold sum4
        rw [F1 _ _ (by omega), F1 _ _ (by omega), F1 _ _ (by omega), F1 _ _ (by omega), (m3 t et).1]
        exact b
      · unfold sum4
        rw [F1 _ _ (by omega), F1 _ _ (by omega), F1 _ _ (by omega), F1 _ _ (by omega), (m3 t et).2]
        exact c
theorem kqs {a : Nat} (ha : a < 32) : ∃ q s : Nat, q < 8 ∧ s < 4 ∧ a = 4 * q + s := ⟨a / 4, a % 4, by omega, by omega, by omega⟩
theorem STR.read {g h hm m1 m2 : Hp} {T a d d2 : Nat} (q6 : qt g ≤ 6) (hT : T < qt g) (a32 : a < 32) (kg : (g.1 224 T).toInt = 0) (kh : (hm.1 224 T).toInt = 0) (Sm : SH hm.2) (TM : TInv hm) (M : MP hm) (h42 : 0 ≤ rd 31 42 hm ∧ rd 31 42 hm ≤ 90000) (A : STR g h hm) (x8 : Ev d 49 (0, [some (.ref (12 + 24 * T + 4 * (Int32.ofNat a &&& Int32.ofInt 3).toNatClampNeg)), none, none, none, none], [], h, fl_tot) (none, m1, fl_tot)) (z8 : Ev d2 162 (0, [some (.ref 223), some (.int (Int32.ofNat T)), some (.int (Int32.ofNat a)), none, none, none, none], [], hm, fl_tot) (none, m2, fl_tot)) : STR g m1 m2 := by
  obtain ⟨q, s, q8, s4, rfl⟩ := kqs a32
  have t6 : T < 6 := by omega
  have c2 : rd 31 42 hm = (hm.1 223 42).toInt := xrd (K := 31) (by decide) (by decide) 42 hm
  rw [c2] at h42
  rw [(ckq q8 s4).2] at x8
  obtain ⟨h', hm', w1, w2, N, F, G, U⟩ := mv_both t6 s4 q8 Sm ((A.2 T hT kg).1 s s4) (fun x hx hz => M.st TM t6 s4 hx kh hz) h42 x8 z8
  obtain ⟨-, k1, -⟩ := tri w1
  obtain ⟨-, k2, -⟩ := tri w2
  subst k1 k2
  exact A.op q6 hT s4 N F (fun K j hK z => G.1 K j (by omega) (by omega) (by omega) (by omega)) (fun K j h1 h2 z => G.1 K j (by omega) (by omega) (by omega) (by omega)) (fun j z => ⟨G.1 _ _ (by omega) (by omega) (by omega) (by omega), G.1 _ _ (by omega) (by omega) (by omega) (by omega)⟩) U
theorem STR.put {g h hm m1 m2 : Hp} {T a d : Nat} {v : Int32} (q6 : qt g ≤ 6) (hT : T < qt g) (a32 : a < 32) (kg : (g.1 224 T).toInt = 0) (kh : (hm.1 224 T).toInt = 0) (Sm : SH hm.2) (TM : TInv hm) (M : MP hm) (h42 : 0 ≤ rd 31 42 hm ∧ rd 31 42 hm ≤ 90000) (k0 : (hm.1 255 (32 * T + a)).toInt = 0) (A : STR g h hm) (x8 : Ev d 69 (0, [some (.ref (12 + 24 * T + 4 * (Int32.ofNat a &&& Int32.ofInt 3).toNatClampNeg)), some (.int (((Int32.ofNat a) >>> ((Int32.ofInt 2) &&& 31)) &&& (Int32.ofInt 7))), none, none], [], h, fl_tot) (none, m1, fl_tot)) (pu : PU2 hm m2 T a v) : STR g m1 m2 := by
  obtain ⟨d0, z8⟩ := pu.1 k0
  obtain ⟨q, s, q8, s4, rfl⟩ := kqs a32
  have t6 : T < 6 := by omega
  have c2 : rd 31 42 hm = (hm.1 223 42).toInt := xrd (K := 31) (by decide) (by decide) 42 hm
  rw [c2] at h42
  rw [(ckq q8 s4).2, (ckq q8 s4).1] at x8
  rw [i4s s4] at z8
  have bg := TI.rng TM 75 24 0 1 (by decide +kernel) (by decide) (by decide) (i := 4 * T + s) (by omega)
  obtain ⟨h', hm', w1, w2, N, F, G, U⟩ := ad_both t6 s4 q8 Sm ((A.2 T hT kg).1 s s4) k0 (fun x hx hz => M.st TM t6 s4 hx kh hz) h42 bg rfl x8 z8
  obtain ⟨-, k1, -⟩ := tri w1
  obtain ⟨-, k2, -⟩ := tri w2
  subst k1 k2
  obtain ⟨⟨x, x1, x2⟩, y, y1, y2⟩ := U
  refine A.op q6 hT s4 N F (fun K j hK z => ?_) (fun K j h1 h2 z => ?_) (fun j z => ⟨?_, ?_⟩) ⟨⟨x, x1, x2.trans ?_⟩, y, y1, y2.trans ?_⟩
  · rw [G.1 K j (by omega) (by omega) (by omega) (by omega), setI_no (by omega), setI_no (by omega)]
  · rw [G.1 K j (by omega) (by omega) (by omega) (by omega), setI_no (by omega), setI_no (by omega)]
  · rw [G.1 _ _ (by omega) (by omega) (by omega) (by omega), setI_no (by omega), setI_no (by omega)]
  · rw [G.1 _ _ (by omega) (by omega) (by omega) (by omega), setI_no (by omega), setI_no (by omega)]
  · rw [setI_no (by omega), setI_no (by omega)]
  · rw [setI_no (by omega), setI_no (by omega)]
theorem STR.put0 {g h hm m2 : Hp} {T a : Nat} {v : Int32} (q6 : qt g ≤ 6) (hT : T < qt g) (a32 : a < 32) (TM : TInv hm) (k1 : (hm.1 255 (32 * T + a)).toInt ≠ 0) (A : STR g h hm) (pu : PU2 hm m2 T a v) : STR g h m2 := by
  have b := TI.rng TM 63 192 0 1 (by decide +kernel) (by decide) (by decide) (i := 32 * T + a) (by omega)
  have b : 0 ≤ (hm.1 255 (32 * T + a)).toInt ∧ (hm.1 255 (32 * T + a)).toInt ≤ 1 := b
  have e : hm.1 255 (32 * T + a) = Int32.ofInt 1 := Int32.toInt_inj.mp (by rw [i32_1]; omega)
  rw [pu.2 k1]
  refine A.fr q6 (fun _ _ _ _ _ => rfl) (fun _ _ _ _ _ => rfl) (fun K t j hK _ _ _ _ => ?_) (fun K j h1 h2 => by rw [setI_no (by omega), setI_no (by omega)])
  by_cases y : K = 255 ∧ j = 32 * T + a
  · obtain ⟨rfl, rfl⟩ := y
    rw [setI_at, e]
  · rw [setI_no y, setI_no (by omega)]
theorem STR.out0 {g h hm : Hp} {T a : Nat} (q6 : qt g ≤ 6) (k0 : (hm.1 255 (32 * T + a)).toInt = 0) (A : STR g h hm) : STR g h (fl_setI hm 255 (32 * T + a) (Int32.ofInt 0)) := by
  have e : hm.1 255 (32 * T + a) = Int32.ofInt 0 := Int32.toInt_inj.mp (by rw [i32_0]; exact k0)
  refine A.fr q6 (fun _ _ _ _ _ => rfl) (fun _ _ _ _ _ => rfl) (fun K t j hK _ _ _ _ => ?_) (fun K j h1 h2 => by rw [setI_no (by omega)])
  by_cases y : K = 255 ∧ j = 32 * T + a
  · obtain ⟨rfl, rfl⟩ := y
    rw [setI_at, e]
  · rw [setI_no y]
theorem STR.out {g h hm m1 : Hp} {T a d : Nat} (q6 : qt g ≤ 6) (hT : T < qt g) (a32 : a < 32) (kg : (g.1 224 T).toInt = 0) (k1 : (hm.1 255 (32 * T + a)).toInt ≠ 0) (A : STR g h hm) (x8 : Ev d 67 (0, [some (.ref (12 + 24 * T + 4 * (Int32.ofNat a &&& Int32.ofInt 3).toNatClampNeg)), some (.int (((Int32.ofNat a) >>> ((Int32.ofInt 2) &&& 31)) &&& (Int32.ofInt 7))), none, none, none, none, none, none], [], h, fl_tot) (none, m1, fl_tot)) : STR g m1 (fl_setI hm 255 (32 * T + a) (Int32.ofInt 0)) := by
  obtain ⟨q, s, q8, s4, rfl⟩ := kqs a32
  have t6 : T < 6 := by omega
  rw [(ckq q8 s4).2, (ckq q8 s4).1] at x8
  obtain ⟨h', w1, N, F, y7, y8⟩ := to_both t6 s4 q8 ((A.2 T hT kg).1 s s4) k1 rfl x8
  obtain ⟨-, k2, -⟩ := tri w1
  subst k2
  exact A.op q6 hT s4 N F (fun K j hK z => setI_no (by omega)) (fun K j h1 h2 z => setI_no (by omega)) (fun j z => ⟨setI_no (by omega), setI_no (by omega)⟩) ⟨⟨Int32.ofInt 0, by rw [y7]; exact (Int32.add_zero _).symm, by rw [setI_no (by omega)]; exact (Int32.add_zero _).symm⟩, Int32.ofInt 0, by rw [y8]; exact (Int32.add_zero _).symm, by rw [setI_no (by omega)]; exact (Int32.add_zero _).symm⟩
