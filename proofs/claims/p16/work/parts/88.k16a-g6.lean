
set_option maxRecDepth 20000
/-! A CARD COMES, A CARD GOES, ON BOTH SIDES -/
theorem RWs.ins {h hm h1 hm1 : Hp} {t s c q r0 : Nat} {fc f0 sv : Int} (R : RWs h hm t s c fc) (n0 : kH hm t s q = 0) (hq : q < 8) (B : ∀ x, x < 8 → kH hm t s x ≠ 0 → kS hm t s x < sv) (yH : ∀ x, x < 8 → x ≠ q → kH hm1 t s x = kH hm t s x) (yH1 : kH hm1 t s q ≠ 0) (yN : ∀ x, x < 8 → x ≠ q → kN hm1 t s x = kN hm t s x) (yN1 : kN hm1 t s q = f0) (yR : ∀ x, x < 8 → x ≠ q → kR hm1 t s x = kR hm t s x) (yR1 : kR hm1 t s q = r0) (yS : ∀ x, x < 8 → x ≠ q → kS hm1 t s x = kS hm t s x) (yS1 : kS hm1 t s q = sv)
    (xl : ∀ x, x ≠ q → h1.1 (15 + 24 * t + 4 * s) x = h.1 (15 + 24 * t + 4 * s) x) (xc : ∀ r : Nat, r < 8 → fc = f0 ∧ r = r0 → h1.1 c r = Int32.ofNat q ∧ h1.1 (15 + 24 * t + 4 * s) q = h.1 c r) (xd : ∀ r : Nat, r < 8 → ¬ (fc = f0 ∧ r = r0) → h1.1 c r = h.1 c r) : RWs h1 hm1 t s c fc := fun r hr => by
  have key : ∀ x, inP hm t s fc r x → x ≠ q := fun x px e => by
    subst e
    exact px.1 n0
  by_cases y : fc = f0 ∧ r = r0
  · obtain ⟨c1, c2⟩ := xc r hr y
    rw [c1]
    refine RLx.push (R r hr) hq (fun x hx px => ⟨xl x (key x px), yS x hx (key x px), ?_⟩) c2 (fun x hx => ?_)
    · rw [yS1]
      exact B x hx px.1
    · by_cases e : x = q
      · refine ⟨fun _ => Or.inl e, fun _ => ?_⟩
        rw [e]
        exact ⟨yH1, by rw [yN1, y.1], by rw [yR1, y.2]⟩
      · unfold inP
        rw [yH x hx e, yN x hx e, yR x hx e]
        exact ⟨fun z => Or.inr z, fun z => z.resolve_left e⟩
  · rw [xd r hr y]
    refine (R r hr).fr (fun x hx px => ⟨xl x (key x px), yS x hx (key x px)⟩) (fun x hx => ?_)
    by_cases e : x = q
    · refine ⟨fun z => ?_, fun z => absurd e (key x z)⟩
      rw [e] at z
      have z1 := z.2.1
      have z2 := z.2.2
      rw [yN1] at z1
      rw [yR1] at z2
      exact absurd ⟨z1.symm, by omega⟩ y
    · unfold inP
      rw [yH x hx e, yN x hx e, yR x hx e]
theorem ad_both {d d2 t s q : Nat} {h hm HM : Hp} {v cc : Int32} {r r2 : Option Value × Hp × Nat} (t6 : t < 6) (s4 : s < 4) (q8 : q < 8) (Sm : SH hm.2) (A : STS h hm t s) (h0 : kH hm t s q = 0) (B1 : ∀ x, x < 8 → kH hm t s x ≠ 0 → kS hm t s x ≤ (hm.1 223 42).toInt) (B2 : 0 ≤ (hm.1 223 42).toInt ∧ (hm.1 223 42).toInt ≤ 90000) (bg : 0 ≤ (hm.1 267 (4 * t + s)).toInt ∧ (hm.1 267 (4 * t + s)).toInt ≤ 1)
    (eHM : HM = fl_setI (fl_setI hm 256 (32 * t + (4 * q + s)) v) 255 (32 * t + (4 * q + s)) (Int32.ofInt 1))
    (e : Ev d 69 (0, [some (.ref (12 + 24 * t + 4 * s)), some (.int (Int32.ofNat q)), none, none], [], h, fl_tot) r)
    (e2 : Ev d2 170 (60, [some (.ref 223), some (.int (Int32.ofNat t)), some (.int (Int32.ofNat (4 * q + s))), some (.int v), some (.int cc), some (.int (Int32.ofNat (4 * t + s)))], [], HM, fl_tot) r2) : ∃ h' hm', r = (none, h', fl_tot) ∧ r2 = (none, hm', fl_tot) ∧ STS h' hm' t s ∧ UPx t s h HM h' hm' := by
  obtain ⟨a, b, n, rm, ab, w, ⟨o1, o2⟩, ⟨g1, g2, g3⟩, g4, g5, g6, g7⟩ := A
  have i4 : (Int32.ofNat (4 * t + s)).toNatClampNeg = 4 * t + s := o32c (by omega)
  have it : (Int32.ofNat t).toNatClampNeg = t := o32c (by omega)
  have ix : ((Int32.ofInt 32) * Int32.ofNat t + Int32.ofNat (4 * q + s)).toNatClampNeg = 32 * t + (4 * q + s) := i32k (by omega) (by omega)
  have ab' := ab
  unfold AB at ab'
  have nl := nH_le hm t s 8
  have SM : SH HM.2 := by rw [eHM]; exact Sm
  have eo : ∀ K j : Nat, K ≠ 255 → K ≠ 256 → HM.1 K j = hm.1 K j := fun K j z1 z2 => by rw [eHM, setI_no (by omega), setI_no (by omega)]
  have eHq : kH HM t s q ≠ 0 := by
    unfold kH
    rw [eHM, setI_at]
    decide
  have eHx : ∀ x, x < 8 → x ≠ q → kH HM t s x = kH hm t s x := fun x hx y => by
    unfold kH
    rw [eHM, setI_no (by omega), setI_no (by omega)]
  have q1 := n_q q8 g4
  have E1 := ys_ad w t6 s4 ab e
  rw [g1, g6, an7 q8, msk0 q8 g4, msk2 q8 g4, two_n g4, o32 (by omega), i32n (n := nH hm t s 8 + 1) (by omega), i32n (n := 2 * n) (by omega)] at E1
  have E2 := zs_pu_a SM e2
  rw [i4, ix, eo 266 _ (by decide) (by decide), eo 267 _ (by decide) (by decide), eo 223 _ (by decide) (by decide), g2, rwm1 q8 s4 g4, rwm2 q8 s4 g4, k_s q8 s4] at E2
  have s1 : (hm.1 223 42 + Int32.ofInt 1).toInt = (hm.1 223 42).toInt + 1 := addI1 (by omega)
  -- what coming to a head does in the reference
  have TH : ∀ (f : Int32) (rr : Nat), rr < 8 → ∀ hB : Hp, hB = fl_setI (fl_setI (fl_setI (fl_setI HM 223 42 (hm.1 223 42 + Int32.ofInt 1)) 259 (32 * t + (4 * q + s)) (hm.1 223 42 + Int32.ofInt 1)) 258 (32 * t + (4 * q + s)) f) 257 (32 * t + (4 * q + s)) (Int32.ofNat rr) →
      (∀ x, x < 8 → x ≠ q → kH hB t s x = kH hm t s x) ∧ kH hB t s q ≠ 0 ∧ (∀ x, x < 8 → x ≠ q → kN hB t s x = kN hm t s x) ∧ kN hB t s q = f.toInt ∧ (∀ x, x < 8 → x ≠ q → kR hB t s x = kR hm t s x) ∧ kR hB t s q = (rr : Int) ∧ (∀ x, x < 8 → x ≠ q → kS hB t s x = kS hm t s x) ∧ kS hB t s q = (hm.1 223 42).toInt + 1 ∧ (∀ K j : Nat, ¬ (K = 223 ∧ j = 42) → ¬ (257 ≤ K ∧ K ≤ 259 ∧ 32 * t ≤ j ∧ j < 32 * t + 32 ∧ j % 4 = s) → hB.1 K j = HM.1 K j) ∧ hB.2 = HM.2 := fun f rr hrr hB eB => by
    have o : ∀ K j : Nat, K ≠ 223 → K ≠ 257 → K ≠ 258 → K ≠ 259 → hB.1 K j = HM.1 K j := fun K j z1 z2 z3 z4 => by rw [eB, setI_no (by omega), setI_no (by omega), setI_no (by omega), setI_no (by omega)]
    refine ⟨fun x hx y => ?_, ?_, fun x hx y => ?_, ?_, fun x hx y => ?_, ?_, fun x hx y => ?_, ?_, fun K j z1 z2 => ?_, by rw [eB]; rfl⟩
    · rw [← eHx x hx y]
      unfold kH
      rw [o _ _ (by decide) (by decide) (by decide) (by decide)]
    · unfold kH
      rw [o _ _ (by decide) (by decide) (by decide) (by decide)]
      exact eHq
    · unfold kN
      rw [eB, setI_no (by omega), setI_no (by omega), setI_no (by omega), setI_no (by omega), eo _ _ (by decide) (by decide)]
    · unfold kN
      rw [eB, setI_no (by omega), setI_at]
    · unfold kR
      rw [eB, setI_no (by omega), setI_no (by omega), setI_no (by omega), setI_no (by omega), eo _ _ (by decide) (by decide)]
    · unfold kR
      rw [eB, setI_at]
      exact i32n (by omega)
    · unfold kS
      rw [eB, setI_no (by omega), setI_no (by omega), setI_no (by omega), setI_no (by omega), eo _ _ (by decide) (by decide)]
    · unfold kS
      rw [eB, setI_no (by omega), setI_no (by omega), setI_at]
      exact s1
    · rw [eB, setI_no (by omega), setI_no (by omega), setI_no (by omega), setI_no (by omega)]
  have BB : ∀ x, x < 8 → kH hm t s x ≠ 0 → kS hm t s x < (hm.1 223 42).toInt + 1 := fun x hx hz => by have := B1 x hx hz; omega
  by_cases gr : (hm.1 267 (4 * t + s)).toInt = 0
  · rcases E2 with ⟨-, -, e2⟩ | ⟨z, -⟩
    · obtain ⟨hB, ehB⟩ : ∃ z, z = fl_setI (fl_setI (fl_setI (fl_setI HM 223 42 (hm.1 223 42 + Int32.ofInt 1)) 259 (32 * t + (4 * q + s)) (hm.1 223 42 + Int32.ofInt 1)) 258 (32 * t + (4 * q + s)) (hm.1 267 (4 * t + s))) 257 (32 * t + (4 * q + s)) (Int32.ofNat (q % n)) := ⟨_, rfl⟩
      rw [← ehB] at e2
      obtain ⟨yH, yH1, yN, yN1, yR, yR1, yS, yS1, yo, y2⟩ := TH _ _ (by omega) hB ehB
      rw [gr] at yN1
      have SB : SH hB.2 := by rw [y2]; exact SM
      obtain ⟨d3, v3, h3, n3, z3, ec3, e2⟩ := b_call (m2 := 171) (k := 2) (nL := 5) (as := [.ref 223, .int (Int32.ofNat t), .int (Int32.ofNat s)]) (rest := []) (L := [some (.ref 223), some (.int (Int32.ofNat t)), some (.int (Int32.ofNat s)), none, none]) e2 (show fl_code 170 117 = some (18, [((171 : Nat) : Int), ((2 : Nat) : Int)], 120) by decide +kernel) rfl (by decide +kernel) rfl rfl rfl
      obtain ⟨w1, w2, w3⟩ := tri (z_ci SB t6 s4 ec3)
      rw [w1, w2, w3] at e2
      have cnt : nH hB t s 8 = nH hm t s 8 + 1 := by
        have := nH_add h0 yH1 8 (fun x hx y => by rw [yH x hx y])
        rw [if_pos q8] at this
        exact this
      have nl2 := nH_le hB t s 8
      have e2 : Ev d2 170 (120, [some (.ref 223), some (.int (Int32.ofNat t)), some (.int (Int32.ofNat (4 * q + s))), some (.int v), some (.int cc), some (.int (Int32.ofNat (4 * t + s)))], [.int (Int32.ofNat (nH hB t s 8))], hB, fl_tot) r2 := e2
      have E2 := zs_pu_b SB e2
      rw [i4, it, yo 266 _ (by omega) (by omega), eo 266 _ (by decide) (by decide), g2, two_n g4, cnt, i32n (n := nH hm t s 8 + 1) (by omega), i32n (n := 2 * n) (by omega)] at E2
      -- the class's heap before it may grow
      have RW : ∀ h1 : Hp, (∀ r j : Nat, ¬ (r = 12 + 24 * t + 4 * s) → h1.1 r j = (fl_setI (fl_setI h (15 + 24 * t + 4 * s) q (h.1 a (q % n))) a (q % n) (Int32.ofNat q)).1 r j) → ∀ hm1 : Hp, (∀ K j : Nat, 255 ≤ K → K ≤ 259 → hm1.1 K j = hB.1 K j) → RWs h1 hm1 t s a 0 ∧ RWs h1 hm1 t s b 1 := fun h1 F hm1 G => by
        have kk : ∀ x, kH hm1 t s x = kH hB t s x ∧ kN hm1 t s x = kN hB t s x ∧ kR hm1 t s x = kR hB t s x ∧ kS hm1 t s x = kS hB t s x := fun x => by
          unfold kH kN kR kS
          rw [G _ _ (by decide) (by decide), G _ _ (by decide) (by decide), G _ _ (by decide) (by decide), G _ _ (by decide) (by decide)]
          exact ⟨rfl, rfl, rfl, rfl⟩
        have xl : ∀ x, x ≠ q → h1.1 (15 + 24 * t + 4 * s) x = h.1 (15 + 24 * t + 4 * s) x := fun x y => by rw [F _ _ (by omega), setI_no (by omega), setI_no (by omega)]
        refine ⟨o1.ins (f0 := 0) (r0 := q % n) h0 q8 BB (fun x hx y => (kk x).1.trans (yH x hx y)) (by rw [(kk q).1]; exact yH1) (fun x hx y => (kk x).2.1.trans (yN x hx y)) ((kk q).2.1.trans yN1) (fun x hx y => (kk x).2.2.1.trans (yR x hx y)) ((kk q).2.2.1.trans yR1) (fun x hx y => (kk x).2.2.2.trans (yS x hx y)) ((kk q).2.2.2.trans yS1) xl (fun r hr y => ⟨?_, ?_⟩) (fun r hr y => ?_), o2.ins (f0 := 0) (r0 := q % n) h0 q8 BB (fun x hx y => (kk x).1.trans (yH x hx y)) (by rw [(kk q).1]; exact yH1) (fun x hx y => (kk x).2.1.trans (yN x hx y)) ((kk q).2.1.trans yN1) (fun x hx y => (kk x).2.2.1.trans (yR x hx y)) ((kk q).2.2.1.trans yR1) (fun x hx y => (kk x).2.2.2.trans (yS x hx y)) ((kk q).2.2.2.trans yS1) xl (fun r hr y => absurd y.1 (by decide)) (fun r hr y => ?_)⟩
        · rw [F _ _ (by omega), y.2, setI_at]
        · rw [F _ _ (by omega), setI_no (by omega), setI_at, y.2]
        · rw [F _ _ (by omega), setI_no (fun z => y ⟨rfl, z.2⟩), setI_no (by omega)]
        · rw [F _ _ (by omega), setI_no (by omega), setI_no (by omega)]
      have g7' : ∀ x, x < 8 → kH hB t s x ≠ 0 → (kN hB t s x = 0 ∨ kN hB t s x = 1) ∧ (kN hB t s x = 0 → kR hB t s x = ((x % n : Nat) : Int)) ∧ kN hB t s x = 0 := fun x hx hz => by
        by_cases y : x = q
        · rw [y, yN1, yR1]
          exact ⟨Or.inl rfl, fun _ => rfl, rfl⟩
        · rw [yH x hx y] at hz
          rw [yN x hx y, yR x hx y]
          obtain ⟨k1, k2, k3⟩ := g7 x hx hz
          refine ⟨k1, fun z => (k2 z).1, ?_⟩
          rcases k1 with k1 | k1
          · exact k1
          · exact absurd gr (k3 k1).1
      by_cases many : nH hm t s 8 + 1 ≤ 2 * n
      · rcases E1 with ⟨-, -, -, z, w1⟩ | ⟨-, -, -, z, -⟩ | ⟨-, -, -, z, -⟩ | ⟨z, -⟩
        · rcases E2 with ⟨z2, w2⟩ | ⟨z2, -⟩
          · obtain ⟨h1, eh1⟩ : ∃ z, z = fl_setI (fl_setI (fl_setI h (15 + 24 * t + 4 * s) q (h.1 a (q % n))) a (q % n) (Int32.ofNat q)) (12 + 24 * t + 4 * s) 4 (Int32.ofNat (nH hm t s 8 + 1)) := ⟨_, rfl⟩
            rw [← eh1] at w1
            have f1 : ∀ r j : Nat, ¬ (r = 15 + 24 * t + 4 * s) → r ≠ a → ¬ (r = 12 + 24 * t + 4 * s ∧ j = 4) → h1.1 r j = h.1 r j := fun r j z1 z2 z3 => by rw [eh1, setI_no z3, setI_no (fun z => z2 z.1), setI_no (fun z => z1 z.1)]
            obtain ⟨k1, k2⟩ := RW h1 (fun r j z => by rw [eh1, setI_no (fun y => z y.1)]) hB (fun _ _ _ _ => rfl)
            refine ⟨h1, hB, w1, w2, ⟨a, b, n, rm, ab, by rw [eh1]; exact w, ⟨k1, k2⟩, ⟨?_, ?_, ?_⟩, g4, fun z => ?_, ?_, fun x hx hz => ⟨(g7' x hx hz).1, fun y => ⟨(g7' x hx hz).2.1 y, fun z => ?_⟩, fun y => ?_⟩⟩, ⟨fun r j z => f1 r j (by omega) (by omega) (by omega), fun r j _ => by rw [eh1]; rfl⟩, ⟨fun K j z1 z2 z3 z4 => yo K j z1 z2, y2⟩, ⟨Int32.ofInt 0, ?_, ?_⟩, ⟨Int32.ofInt 0, ?_, ?_⟩⟩
            · rw [f1 _ _ (by omega) (by omega) (by omega)]; exact g1
            · rw [yo _ _ (by omega) (by omega), eo _ _ (by decide) (by decide)]; exact g2
            · rw [f1 _ _ (by omega) (by omega) (by omega), yo _ _ (by omega) (by omega), eo _ _ (by decide) (by decide)]; exact g3
            · rw [yo _ _ (by omega) (by omega), eo _ _ (by decide) (by decide)] at z; exact absurd gr z
            · rw [eh1, setI_at, cnt]
            · rw [yo _ _ (by omega) (by omega), eo _ _ (by decide) (by decide)] at z; exact absurd gr z
            · have := (g7' x hx hz).2.2; omega
            · rw [f1 _ _ (by omega) (by omega) (by omega)]; exact (Int32.add_zero _).symm
            · rw [yo _ _ (by omega) (by omega)]; exact (Int32.add_zero _).symm
            · rw [f1 _ _ (by omega) (by omega) (by omega)]; exact (Int32.add_zero _).symm
            · rw [yo _ _ (by omega) (by omega)]; exact (Int32.add_zero _).symm
          · omega
        · omega
        · omega
        · exact absurd (by rw [g3]; exact gr) z
      · have n2 : n ≤ 2 := by omega
        rcases E1 with ⟨-, -, -, z, -⟩ | ⟨-, -, -, z, z2, w1⟩ | ⟨-, -, -, z, z2, -⟩ | ⟨z, -⟩
        · omega
        · rcases E2 with ⟨z2, -⟩ | ⟨z2, w2⟩
          · omega
          · obtain ⟨h1, eh1⟩ : ∃ z, z = fl_setI (fl_setI (fl_setI (fl_setI (fl_setI (fl_setI h (15 + 24 * t + 4 * s) q (h.1 a (q % n))) a (q % n) (Int32.ofNat q)) (12 + 24 * t + 4 * s) 4 (Int32.ofNat (nH hm t s 8 + 1))) (12 + 24 * t + 4 * s) 5 (Int32.ofInt 1)) (12 + 24 * t + 4 * s) 7 (h.1 (12 + 24 * t + 4 * s) 7 + Int32.ofInt 1)) (12 + 24 * t + 4 * s) 6 (Int32.ofInt 0) := ⟨_, rfl⟩
            rw [← eh1] at w1
            obtain ⟨hC, ehC⟩ : ∃ z, z = fl_setI (fl_setI (fl_setI hB 267 (4 * t + s) (Int32.ofInt 1)) 268 (4 * t + s) (Int32.ofInt 0)) 269 t (hB.1 269 t + Int32.ofInt 1) := ⟨_, rfl⟩
            rw [← ehC] at w2
            have f1 : ∀ r j : Nat, ¬ (r = 15 + 24 * t + 4 * s) → r ≠ a → ¬ (r = 12 + 24 * t + 4 * s ∧ 4 ≤ j ∧ j ≤ 7) → h1.1 r j = h.1 r j := fun r j z1 z2 z3 => by rw [eh1, setI_no (by omega), setI_no (by omega), setI_no (by omega), setI_no (by omega), setI_no (fun z => z2 z.1), setI_no (fun z => z1 z.1)]
            have c1 : ∀ K j : Nat, ¬ (267 ≤ K ∧ K ≤ 269) → hC.1 K j = hB.1 K j := fun K j z => by rw [ehC, setI_no (by omega), setI_no (by omega), setI_no (by omega)]
            obtain ⟨k1, k2⟩ := RW h1 (fun r j z => by rw [eh1, setI_no (fun y => z y.1), setI_no (fun y => z y.1), setI_no (fun y => z y.1), setI_no (fun y => z y.1)]) hC (fun K j z1 z2 => c1 K j (by omega))
            have kk : ∀ x, kH hC t s x = kH hB t s x ∧ kN hC t s x = kN hB t s x ∧ kR hC t s x = kR hB t s x := fun x => by
              unfold kH kN kR
              rw [c1 _ _ (by decide), c1 _ _ (by decide), c1 _ _ (by decide)]
              exact ⟨rfl, rfl, rfl⟩
            have l7 : hC.1 267 (4 * t + s) = Int32.ofInt 1 := by rw [ehC, setI_no (by omega), setI_no (by omega), setI_at]
            have l8 : hC.1 268 (4 * t + s) = Int32.ofInt 0 := by rw [ehC, setI_no (by omega), setI_at]
            refine ⟨h1, hC, w1, w2, ⟨a, b, n, 0, ab, by rw [eh1]; exact w, ⟨k1, k2⟩, ⟨?_, ?_, ?_⟩, g4, fun z => ⟨n2, by omega, ?_, l8⟩, ?_, fun x hx hz => ?_⟩, ⟨fun r j z => f1 r j (by omega) (by omega) (by omega), fun r j _ => by rw [eh1]; rfl⟩, ⟨fun K j z1 z2 z3 z4 => ?_, by rw [ehC]; exact y2⟩, ⟨Int32.ofInt 1, ?_, ?_⟩, ⟨Int32.ofInt 0, ?_, ?_⟩⟩
            · rw [f1 _ _ (by omega) (by omega) (by omega)]; exact g1
            · rw [c1 _ _ (by decide), yo _ _ (by omega) (by omega), eo _ _ (by decide) (by decide)]; exact g2
            · rw [eh1, setI_no (by omega), setI_no (by omega), setI_at, l7]
            · rw [eh1, setI_at]; rfl
            · rw [eh1, setI_no (by omega), setI_no (by omega), setI_no (by omega), setI_at, nH_eq (h := hB) (h' := hC) 8 (fun x hx => by rw [(kk x).1]), cnt]
            · rw [(kk x).1] at hz
              rw [(kk x).2.1, (kk x).2.2]
              obtain ⟨k3, k4, k5⟩ := g7' x hx hz
              exact ⟨k3, fun y => ⟨k4 y, fun _ => by rw [k4 y]; omega⟩, fun y => by omega⟩
            · rw [ehC, setI_no (by omega), setI_no (by omega), setI_no (by omega)]
              exact yo K j z1 z2
            · rw [eh1, setI_no (by omega), setI_at]
            · rw [ehC, setI_at, yo _ _ (by omega) (by omega)]
            · rw [f1 _ _ (by omega) (by omega) (by omega)]; exact (Int32.add_zero _).symm
            · rw [c1 _ _ (by decide), yo _ _ (by omega) (by omega)]; exact (Int32.add_zero _).symm
        · omega
        · exact absurd (by rw [g3]; exact gr) z
    · exact absurd gr z
  · obtain ⟨n2, rn, g8, g9⟩ := g5 gr
    have gr1 : (hm.1 267 (4 * t + s)).toInt = 1 := by omega
    rcases E2 with ⟨z, -⟩ | ⟨-, -, w2⟩
    · exact absurd z gr
    · obtain ⟨hB, ehB⟩ : ∃ z, z = fl_setI (fl_setI (fl_setI (fl_setI HM 223 42 (hm.1 223 42 + Int32.ofInt 1)) 259 (32 * t + (4 * q + s)) (hm.1 223 42 + Int32.ofInt 1)) 258 (32 * t + (4 * q + s)) (hm.1 267 (4 * t + s))) 257 (32 * t + (4 * q + s)) (Int32.ofNat (q % (2 * n))) := ⟨_, rfl⟩
      rw [← ehB] at w2
      obtain ⟨yH, yH1, yN, yN1, yR, yR1, yS, yS1, yo, y2⟩ := TH _ _ (by omega) hB ehB
      rw [gr1] at yN1
      have cnt : nH hB t s 8 = nH hm t s 8 + 1 := by
        have := nH_add h0 yH1 8 (fun x hx y => by rw [yH x hx y])
        rw [if_pos q8] at this
        exact this
      rcases E1 with ⟨z, -⟩ | ⟨z, -⟩ | ⟨z, -⟩ | ⟨-, -, -, w1⟩
      · exact absurd (by rw [← g3]; exact z) gr
      · exact absurd (by rw [← g3]; exact z) gr
      · exact absurd (by rw [← g3]; exact z) gr
      · obtain ⟨h1, eh1⟩ : ∃ z, z = fl_setI (fl_setI (fl_setI h (15 + 24 * t + 4 * s) q (h.1 b (q % (2 * n)))) b (q % (2 * n)) (Int32.ofNat q)) (12 + 24 * t + 4 * s) 4 (Int32.ofNat (nH hm t s 8 + 1)) := ⟨_, rfl⟩
        rw [← eh1] at w1
        have f1 : ∀ r j : Nat, ¬ (r = 15 + 24 * t + 4 * s) → r ≠ b → ¬ (r = 12 + 24 * t + 4 * s ∧ j = 4) → h1.1 r j = h.1 r j := fun r j z1 z2 z3 => by rw [eh1, setI_no z3, setI_no (fun z => z2 z.1), setI_no (fun z => z1 z.1)]
        have xl : ∀ x, x ≠ q → h1.1 (15 + 24 * t + 4 * s) x = h.1 (15 + 24 * t + 4 * s) x := fun x y => by rw [eh1, setI_no (by omega), setI_no (by omega), setI_no (by omega)]
        have k1 : RWs h1 hB t s a 0 := o1.ins (f0 := 1) (r0 := q % (2 * n)) h0 q8 BB yH yH1 yN yN1 yR yR1 yS yS1 xl (fun r hr y => absurd y.1 (by decide)) (fun r hr y => f1 _ _ (by omega) (by omega) (by omega))
        have k2 : RWs h1 hB t s b 1 := o2.ins (f0 := 1) (r0 := q % (2 * n)) h0 q8 BB yH yH1 yN yN1 yR yR1 yS yS1 xl (fun r hr y => ⟨by rw [eh1, setI_no (by omega), y.2, setI_at], by rw [eh1, setI_no (by omega), setI_no (by omega), setI_at, y.2]⟩) (fun r hr y => by rw [eh1, setI_no (by omega), setI_no (fun z => y ⟨rfl, z.2⟩), setI_no (by omega)])
        have l7 : hB.1 267 (4 * t + s) = hm.1 267 (4 * t + s) := by rw [yo _ _ (by omega) (by omega), eo _ _ (by decide) (by decide)]
        refine ⟨h1, hB, w1, w2, ⟨a, b, n, rm, ab, by rw [eh1]; exact w, ⟨k1, k2⟩, ⟨?_, ?_, ?_⟩, g4, fun z => ⟨n2, rn, ?_, ?_⟩, ?_, fun x hx hz => ?_⟩, ⟨fun r j z => f1 r j (by omega) (by omega) (by omega), fun r j _ => by rw [eh1]; rfl⟩, ⟨fun K j z1 z2 z3 z4 => yo K j z1 z2, y2⟩, ⟨Int32.ofInt 0, ?_, ?_⟩, ⟨Int32.ofInt 0, ?_, ?_⟩⟩
        · rw [f1 _ _ (by omega) (by omega) (by omega)]; exact g1
        · rw [yo _ _ (by omega) (by omega), eo _ _ (by decide) (by decide)]; exact g2
        · rw [f1 _ _ (by omega) (by omega) (by omega), l7]; exact g3
        · rw [f1 _ _ (by omega) (by omega) (by omega)]; exact g8
        · rw [yo _ _ (by omega) (by omega), eo _ _ (by decide) (by decide)]; exact g9
        · rw [eh1, setI_at, cnt]
        · rw [l7]
          by_cases y : x = q
          · rw [y, yN1, yR1]
            exact ⟨Or.inr rfl, fun z => by omega, fun _ => ⟨gr, rfl⟩⟩
          · rw [yH x hx y] at hz
            rw [yN x hx y, yR x hx y]
            exact g7 x hx hz
        · rw [f1 _ _ (by omega) (by omega) (by omega)]; exact (Int32.add_zero _).symm
        · rw [yo _ _ (by omega) (by omega)]; exact (Int32.add_zero _).symm
        · rw [f1 _ _ (by omega) (by omega) (by omega)]; exact (Int32.add_zero _).symm
        · rw [yo _ _ (by omega) (by omega)]; exact (Int32.add_zero _).symm
/-! a card goes -/
theorem to_walk {d t s a b ro q : Nat} {h : Hp} {side at_ : Int32} {r : Option Value × Hp × Nat} (w : SW t s a b h.2) (t6 : t < 6) (s4 : s < 4) (ab : AB t s a b) (hro : 13 + 24 * t + 4 * s ≤ ro ∧ ro ≤ 14 + 24 * t + 4 * s) (hrl : fl_lay ro = (20, 8)) (q8 : q < 8) : ∀ (l : List Nat) (k : Nat) {he av : Int32}, chn (h.1 (15 + 24 * t + 4 * s)) he l → k + l.length ≤ 8 → Ev d 67 (51, [some (.ref (12 + 24 * t + 4 * s)), some (.int (Int32.ofNat q)), some (.int side), some (.ref ro), some (.int at_), some (.int av), some (.int he), some (.int (Int32.ofNat k))], [], h, fl_tot) r →
    ∃ av' he' k', Ev d 67 (92, [some (.ref (12 + 24 * t + 4 * s)), some (.int (Int32.ofNat q)), some (.int side), some (.ref ro), some (.int at_), some (.int av'), some (.int he'), some (.int k')], [], h, fl_tot) r ∧ ((q ∉ l ∧ he' = Int32.ofInt (-1)) ∨ (he' = Int32.ofNat q ∧ ∃ pre post : List Nat, l = pre ++ q :: post ∧ ((pre = [] ∧ av' = av) ∨ ∃ (p : List Nat) (x : Nat), pre = p ++ [x] ∧ av' = Int32.ofNat x)))
  | [], k, he, av, c, hk, e => by
    have c1 : he = Int32.ofInt (-1) := c
    have fin : q ∉ ([] : List Nat) := fun z => by cases z
    rcases ys_to_l w t6 s4 ab hro hrl e with ⟨z, e⟩ | ⟨z, z2, e⟩ | ⟨z, z2, z3, e⟩ | ⟨z, z2, z3, e⟩
    · exact ⟨_, _, _, e, Or.inl ⟨fin, c1⟩⟩
    · exact ⟨_, _, _, e, Or.inl ⟨fin, c1⟩⟩
    · exact absurd (by rw [c1]; exact m1i) z2
    · exact absurd (by rw [c1]; exact m1i) z2
  | x :: l, k, he, av, c, hk, e => by
    obtain ⟨c1, c2, c3⟩ := chn_c.mp c
    rw [List.length_cons] at hk
    have E := ys_to_l w t6 s4 ab hro hrl e
    rw [c1, an7 c2, i32n (n := k) (by omega), i32n (n := x) (by omega), i32n (n := q) (by omega), o32 (by omega)] at E
    rcases E with ⟨z, e⟩ | ⟨z, z2, e⟩ | ⟨z, z2, z3, e⟩ | ⟨z, z2, z3, e⟩
    · omega
    · omega
    · have e3 : x = q := by omega
      rw [e3] at e
      exact ⟨_, _, _, e, Or.inr ⟨rfl, [], l, by rw [e3]; rfl, Or.inl ⟨rfl, rfl⟩⟩⟩
    · obtain ⟨av', he', k', a1, a2⟩ := to_walk w t6 s4 ab hro hrl q8 l (k + 1) c3 (by omega) e
      refine ⟨av', he', k', a1, ?_⟩
      rcases a2 with ⟨b1, b2⟩ | ⟨b1, pre, post, b2, b3⟩
      · exact Or.inl ⟨fun y => (List.mem_cons.mp y).elim (fun y => by omega) b1, b2⟩
      · refine Or.inr ⟨b1, x :: pre, post, by rw [b2]; rfl, Or.inr ?_⟩
        rcases b3 with ⟨b3, b4⟩ | ⟨p, y, b3, b4⟩
        · exact ⟨[], x, by rw [b3]; rfl, b4⟩
        · exact ⟨x :: p, y, by rw [b3]; rfl, b4⟩
theorem to_fin {d t s a b n rm ro q r0 : Nat} {f0 : Int} {h hm hm' : Hp} {side at_ av k' : Int32} {r : Option Value × Hp × Nat} {pre post : List Nat} (A : STa h hm t s a b n rm) (t6 : t < 6) (s4 : s < 4) (q8 : q < 8) (hz : kH hm t s q ≠ 0) (tr : (ro = a ∧ f0 = 0) ∨ (ro = b ∧ f0 = 1)) (kn : kN hm t s q = f0) (kr : kR hm t s q = r0) (r8 : r0 < 8) (hat : at_.toNatClampNeg = r0) (R : RLl (h.1 (15 + 24 * t + 4 * s)) (h.1 ro r0) (inP hm t s f0 r0) (kS hm t s) (pre ++ q :: post)) (hp : (pre = [] ∧ av = Int32.ofInt (-1)) ∨ ∃ (p : List Nat) (x : Nat), pre = p ++ [x] ∧ av = Int32.ofNat x)
    (em : hm' = fl_setI hm 255 (32 * t + (4 * q + s)) (Int32.ofInt 0)) (e : Ev d 67 (92, [some (.ref (12 + 24 * t + 4 * s)), some (.int (Int32.ofNat q)), some (.int side), some (.ref ro), some (.int at_), some (.int av), some (.int (Int32.ofNat q)), some (.int k')], [], h, fl_tot) r) : ∃ h', r = (none, h', fl_tot) ∧ STS h' hm' t s ∧ FXs t s h h' ∧ h'.1 (12 + 24 * t + 4 * s) 7 = h.1 (12 + 24 * t + 4 * s) 7 ∧ h'.1 (12 + 24 * t + 4 * s) 8 = h.1 (12 + 24 * t + 4 * s) 8 := by
  obtain ⟨ab, w, ⟨o1, o2⟩, ⟨g1, g2, g3⟩, g4, g5, g6, g7⟩ := A
  have ab' := ab
  unfold AB at ab'
  have hro : 13 + 24 * t + 4 * s ≤ ro ∧ ro ≤ 14 + 24 * t + 4 * s := by omega
  have hrl : fl_lay ro = (20, 8) := by
    have : ro = 13 + 24 * t + 4 * s ∨ ro = 14 + 24 * t + 4 * s := by omega
    rcases this with y | y
    · rw [y]; exact lay_sta t6 s4
    · rw [y]; exact lay_stb t6 s4
  have yH : ∀ x, x < 8 → x ≠ q → kH hm' t s x = kH hm t s x := fun x hx y => by unfold kH; rw [em, setI_no (by omega)]
  have yH1 : kH hm' t s q = 0 := by unfold kH; rw [em, setI_at]; exact i32_0
  have mo : ∀ K j : Nat, K ≠ 255 → hm'.1 K j = hm.1 K j := fun K j z => by rw [em, setI_no (by omega)]
  have yN : ∀ x, kN hm' t s x = kN hm t s x := fun x => by unfold kN; rw [mo _ _ (by decide)]
  have yR : ∀ x, kR hm' t s x = kR hm t s x := fun x => by unfold kR; rw [mo _ _ (by decide)]
  have yS : ∀ x, kS hm' t s x = kS hm t s x := fun x => by unfold kS; rw [mo _ _ (by decide)]
  have cnt : nH hm t s 8 = nH hm' t s 8 + 1 := by
    have := nH_add yH1 hz 8 (fun x hx y => by rw [yH x hx y])
    rw [if_pos q8] at this
    exact this
  have nl := nH_le hm t s 8
  have inpre : ∀ x, x ∈ pre → x < 8 ∧ inP hm t s f0 r0 x := fun x hx => (R.2.1 x).mp (List.mem_append.mpr (Or.inl hx))
  have E := ys_to_e w t6 s4 ab hro hrl e
  rw [an7 q8, g6, osub (by omega) (by omega), show nH hm t s 8 - 1 = nH hm' t s 8 by omega, hat] at E
  -- what is left to show, of any heap that the way out leaves
  have fin : ∀ h' : Hp, r = (none, h', fl_tot) → h'.2 = h.2 → h'.1 (12 + 24 * t + 4 * s) 4 = Int32.ofNat (nH hm' t s 8) → (∀ r j : Nat, ¬ (r = 15 + 24 * t + 4 * s) → ¬ (r = ro ∧ j = r0) → ¬ (r = 12 + 24 * t + 4 * s ∧ j = 4) → h'.1 r j = h.1 r j) → ((pre = [] ∧ h'.1 ro r0 = h.1 (15 + 24 * t + 4 * s) q ∧ ∀ y, h'.1 (15 + 24 * t + 4 * s) y = h.1 (15 + 24 * t + 4 * s) y) ∨ ∃ (p : List Nat) (x : Nat), pre = p ++ [x] ∧ h'.1 ro r0 = h.1 ro r0 ∧ h'.1 (15 + 24 * t + 4 * s) x = h.1 (15 + 24 * t + 4 * s) q ∧ ∀ y, y ≠ x → h'.1 (15 + 24 * t + 4 * s) y = h.1 (15 + 24 * t + 4 * s) y) → ∃ h', r = (none, h', fl_tot) ∧ STS h' hm' t s ∧ FXs t s h h' ∧ h'.1 (12 + 24 * t + 4 * s) 7 = h.1 (12 + 24 * t + 4 * s) 7 ∧ h'.1 (12 + 24 * t + 4 * s) 8 = h.1 (12 + 24 * t + 4 * s) 8 := fun h' w1 x2 x4 f1 hd => by
    have RR_ : ∀ (c : Nat) (fc : Int), ((c = a ∧ fc = 0) ∨ (c = b ∧ fc = 1)) → RWs h hm t s c fc → RWs h' hm' t s c fc := fun c fc hc O r' hr' => by
      by_cases y : fc = f0 ∧ r' = r0
      · obtain ⟨y1, y2⟩ := y
        have ec : c = ro := by
          rcases hc with ⟨z1, z2⟩ | ⟨z1, z2⟩ <;> rcases tr with ⟨z3, z4⟩ | ⟨z3, z4⟩ <;> omega
        rw [ec, y1, y2]
        refine R.del hd (fun x _ _ _ => yS x) (fun x hx => ?_)
        by_cases z : x = q
        · rw [z]
          exact ⟨fun y => absurd yH1 y.1, fun y => absurd rfl y.2⟩
        · unfold inP
          rw [yH x hx z, yN, yR]
          exact ⟨fun y => ⟨y, z⟩, fun y => y.1⟩
      · have key : ∀ x, inP hm t s fc r' x → x ≠ q ∧ h'.1 (15 + 24 * t + 4 * s) x = h.1 (15 + 24 * t + 4 * s) x := fun x px => by
          refine ⟨fun z => ?_, ?_⟩
          · subst z
            have z1 := px.2.1
            have z2 := px.2.2
            rw [kn] at z1
            rw [kr] at z2
            exact y ⟨z1.symm, by omega⟩
          · rcases hd with ⟨-, -, z⟩ | ⟨p, x', z1, -, -, z⟩
            · exact z x
            · refine z x (fun e => ?_)
              subst e
              have z3 := (inpre x (by rw [z1]; exact List.mem_append.mpr (Or.inr (List.mem_cons.mpr (Or.inl rfl))))).2
              have z4 := px.2.1
              have z5 := px.2.2
              have z6 := z3.2.1
              have z7 := z3.2.2
              exact y ⟨by omega, by omega⟩
        have ev : h'.1 c r' = h.1 c r' := by
          refine f1 _ _ (by omega) (fun z => ?_) (by omega)
          refine y ⟨?_, z.2⟩
          rcases hc with ⟨z1, z2⟩ | ⟨z1, z2⟩ <;> rcases tr with ⟨z3, z4⟩ | ⟨z3, z4⟩ <;> omega
        rw [ev]
        refine (O r' hr').fr (fun x hx px => ⟨(key x px).2, yS x⟩) (fun x hx => ?_)
        by_cases z : x = q
        · rw [z]
          exact ⟨fun y => absurd yH1 y.1, fun y => absurd rfl (key q y).1⟩
        · unfold inP
          rw [yH x hx z, yN, yR]
    refine ⟨h', w1, ⟨a, b, n, rm, ab, by rw [x2]; exact w, ⟨RR_ a 0 (Or.inl ⟨rfl, rfl⟩) o1, RR_ b 1 (Or.inr ⟨rfl, rfl⟩) o2⟩, ⟨?_, ?_, ?_⟩, g4, fun z => ?_, x4, fun x hx hz' => ?_⟩, ⟨fun r j z => f1 r j (by omega) (by omega) (by omega), fun r j _ => by rw [x2]⟩, f1 _ _ (by omega) (by omega) (by omega), f1 _ _ (by omega) (by omega) (by omega)⟩
    · rw [f1 _ _ (by omega) (by omega) (by omega)]; exact g1
    · rw [mo _ _ (by decide)]; exact g2
    · rw [f1 _ _ (by omega) (by omega) (by omega), mo _ _ (by decide)]; exact g3
    · rw [mo _ _ (by decide)] at z
      rw [f1 _ _ (by omega) (by omega) (by omega), mo _ _ (by decide)]
      exact g5 z
    · have xq : x ≠ q := fun z => hz' (by rw [z]; exact yH1)
      rw [yH x hx xq] at hz'
      rw [yN, yR, mo _ _ (by decide)]
      exact g7 x hx hz'
  rcases hp with ⟨p1, p2⟩ | ⟨p, x, p1, p2⟩
  · rcases E with ⟨z, z2, -⟩ | ⟨z, z2, w1⟩ | ⟨z, -⟩
    · exact absurd (by rw [p2]; exact m1i) z2
    · refine fin _ w1 rfl setI_at (fun r j z1 z2 z3 => by rw [setI_no z3, setI_no z2]) (Or.inl ⟨p1, by rw [setI_no (by omega), setI_at], fun y => by rw [setI_no (by omega), setI_no (by omega)]⟩)
    · exact absurd rfl z
  · have x8 : x < 8 := (inpre x (by rw [p1]; exact List.mem_append.mpr (Or.inr (List.mem_cons.mpr (Or.inl rfl))))).1
    rw [p2, an7 x8] at E
    rcases E with ⟨z, z2, w1⟩ | ⟨z, z2, -⟩ | ⟨z, -⟩
    · refine fin _ w1 rfl setI_at (fun r j z1 z2 z3 => by rw [setI_no z3, setI_no (fun z => z1 z.1)]) (Or.inr ⟨p, x, p1, by rw [setI_no (by omega), setI_no (by omega)], by rw [setI_no (by omega), setI_at], fun y z => by rw [setI_no (by omega), setI_no (fun z2 => z z2.2)]⟩)
    · rw [i32n (by omega)] at z2; omega
    · exact absurd rfl z
theorem to_both {d t s q : Nat} {h hm hm' : Hp} {r : Option Value × Hp × Nat} (t6 : t < 6) (s4 : s < 4) (q8 : q < 8) (A : STS h hm t s) (hz : kH hm t s q ≠ 0) (em : hm' = fl_setI hm 255 (32 * t + (4 * q + s)) (Int32.ofInt 0))
    (e : Ev d 67 (0, [some (.ref (12 + 24 * t + 4 * s)), some (.int (Int32.ofNat q)), none, none, none, none, none, none], [], h, fl_tot) r) : ∃ h', r = (none, h', fl_tot) ∧ STS h' hm' t s ∧ FXs t s h h' ∧ h'.1 (12 + 24 * t + 4 * s) 7 = h.1 (12 + 24 * t + 4 * s) 7 ∧ h'.1 (12 + 24 * t + 4 * s) 8 = h.1 (12 + 24 * t + 4 * s) 8 := by
  obtain ⟨a, b, n, rm, AA⟩ := A
  obtain ⟨ab, w, ⟨o1, o2⟩, ⟨g1, g2, g3⟩, g4, g5, g6, g7⟩ := id AA
  have ab' := ab
  unfold AB at ab'
  have q1 := n_q q8 g4
  obtain ⟨k1, k2, k3⟩ := g7 q q8 hz
  have e := ys_to_1 w t6 s4 ab (ys_to_0 w t6 s4 ab e)
  rw [g1, msk1 q8 g4] at e
  have hla : ∀ c, (c = a ∨ c = b) → (13 + 24 * t + 4 * s ≤ c ∧ c ≤ 14 + 24 * t + 4 * s) ∧ fl_lay c = (20, 8) := fun c hc => by
    have : c = 13 + 24 * t + 4 * s ∨ c = 14 + 24 * t + 4 * s := by omega
    rcases this with y | y
    · rw [y]; exact ⟨by omega, lay_sta t6 s4⟩
    · rw [y]; exact ⟨by omega, lay_stb t6 s4⟩
  obtain ⟨l, R⟩ := o1 (q % n) (by omega)
  obtain ⟨av, he, kk, e, c⟩ := to_walk w t6 s4 ab (hla a (Or.inl rfl)).1 (hla a (Or.inl rfl)).2 q8 l 0 R.1 (by have := R.len; omega) e
  rcases k1 with k1 | k1
  · have mem : q ∈ l := (R.2.1 q).mpr ⟨q8, hz, k1, (k2 k1).1⟩
    rcases c with ⟨c1, -⟩ | ⟨c1, pre, post, c2, c3⟩
    · exact absurd mem c1
    · subst c2
      rw [c1] at e
      exact to_fin AA t6 s4 q8 hz (Or.inl ⟨rfl, rfl⟩) k1 (k2 k1).1 (by omega) (msk1 q8 g4) R c3 em e
  · have mem : q ∉ l := fun z => by
      have := ((R.2.1 q).mp z).2.2.1
      omega
    rcases c with ⟨-, c1⟩ | ⟨c1, pre, post, c2, c3⟩
    · have e : Ev d 67 (153, [some (.ref (12 + 24 * t + 4 * s)), some (.int (Int32.ofNat q)), some (.int (Int32.ofInt 1)), some (.ref a), some (.int ((Int32.ofNat q &&& ((Int32.ofInt 1) * Int32.ofNat n - Int32.ofInt 1)) &&& Int32.ofInt 7)), some (.int av), some (.int he), some (.int kk)], [], h, fl_tot) r := by
        rcases ys_to_e w t6 s4 ab (hla a (Or.inl rfl)).1 (hla a (Or.inl rfl)).2 e with ⟨z, -⟩ | ⟨z, -⟩ | ⟨z, e⟩
        · rw [c1, m1i, i32n (by omega)] at z; omega
        · rw [c1, m1i, i32n (by omega)] at z; omega
        · exact e
      have e := ys_to_n w t6 s4 ab (hla a (Or.inl rfl)).1 (hla a (Or.inl rfl)).2 e
      rw [show Int32.ofInt 1 + Int32.ofInt 1 = Int32.ofInt 2 by decide] at e
      have e := ys_to_2 w t6 s4 ab e
      rw [g1, msk2 q8 g4] at e
      obtain ⟨l2, R2⟩ := o2 (q % (2 * n)) (by omega)
      obtain ⟨av, he, kk, e, c⟩ := to_walk w t6 s4 ab (hla b (Or.inr rfl)).1 (hla b (Or.inr rfl)).2 q8 l2 0 R2.1 (by have := R2.len; omega) e
      have mem : q ∈ l2 := (R2.2.1 q).mpr ⟨q8, hz, k1, (k3 k1).2⟩
      rcases c with ⟨c1, -⟩ | ⟨c1, pre, post, c2, c3⟩
      · exact absurd mem c1
      · subst c2
        rw [c1] at e
        exact to_fin AA t6 s4 q8 hz (Or.inr ⟨rfl, rfl⟩) k1 (k3 k1).2 (by omega) (msk2 q8 g4) R2 c3 em e
    · exact absurd (by rw [c2]; exact List.mem_append.mpr (Or.inr (List.mem_cons.mpr (Or.inl rfl)))) mem
