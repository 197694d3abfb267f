
set_option maxRecDepth 20000
/-! EXPLORE, BOTH SIDES, with what is found -/
def XLQ (b h0 h hm : Hp) (fo k : Nat) (mr : Int32) : Prop := XL b h0 h hm fo mr ∧ FND h0 k h hm
theorem exp_lQ {b h0 : Hp} (hT0 : TInv h0) (U0 : LI h0) {mo : Int32} (hmo : mo.toInt ≤ 60) {d d2 : Nat} {r r2 : Option Value × Hp × Nat} : ∀ (f k fo : Nat) (mr : Int32) (h hm : Hp) (o5 o6 : Option Value), XLQ b h0 h hm fo k mr → k ≤ 60 → (k : Int) ≤ mo.toInt → 60 - k ≤ f → Ev d 129 (43, [some (.ref 0), some (.int mo), some (.int mr), some (.int (Int32.ofNat k))], [], h, fl_tot) r → Ev d2 206 (55, [some (.ref 223), some (.int mo), some (.int (Int32.ofNat fo)), some (.int (Int32.ofNat k)), some (.int mr), o5, o6], [], hm, fl_tot) r2 → ∃ (k' fo' : Nat) (mr' : Int32) (h' hm' : Hp) (o5' o6' : Option Value), XLQ b h0 h' hm' fo' k' mr' ∧ k' ≤ 60 ∧ (k' : Int) ≤ mo.toInt ∧ Ev d 129 (94, [some (.ref 0), some (.int mo), some (.int mr'), some (.int (Int32.ofNat k'))], [], h', fl_tot) r ∧ Ev d2 206 (243, [some (.ref 223), some (.int mo), some (.int (Int32.ofNat fo')), some (.int (Int32.ofNat k')), some (.int mr'), o5', o6'], [], hm', fl_tot) r2 := by
  have G : GS h0 := GS.of hT0 U0.2.2.2
  have q5 : qc h0 ≤ 5 := G.1.2.2.1
  have Q := qt_i hT0
  intro f
  induction f with
  | zero =>
    intro k fo mr h hm o5 o6 L hk hkm hf e e2
    have ek : (Int32.ofNat k).toInt = k := i32n (by omega)
    rcases z_ex_2 L.1.2.2.2.2.1.1 e2 with ⟨m0, e2⟩ | ⟨-, m0, e2⟩ | ⟨-, m0, -⟩
    · rcases x_expl_2 L.1.1.1.1.1 e with ⟨-, e⟩ | ⟨-, -, e⟩ | ⟨q, q2, -⟩
      · exact ⟨k, fo, mr, h, hm, o5, o6, L, hk, hkm, e, e2⟩
      · exact ⟨k, fo, mr, h, hm, o5, o6, L, hk, hkm, e, e2⟩
      · exact absurd m0 q2
    · rcases x_expl_2 L.1.1.1.1.1 e with ⟨-, e⟩ | ⟨-, -, e⟩ | ⟨q, q2, -⟩
      · exact ⟨k, fo, mr, h, hm, o5, o6, L, hk, hkm, e, e2⟩
      · exact ⟨k, fo, mr, h, hm, o5, o6, L, hk, hkm, e, e2⟩
      · omega
    · omega
  | succ f ih =>
    intro k fo mr h hm o5 o6 L hk hkm hf e e2
    have ek : (Int32.ofNat k).toInt = k := i32n (by omega)
    rcases z_ex_2 L.1.2.2.2.2.1.1 e2 with ⟨m0, e2⟩ | ⟨-, m0, e2⟩ | ⟨m1, m0, e2⟩
    · rcases x_expl_2 L.1.1.1.1.1 e with ⟨-, e⟩ | ⟨-, -, e⟩ | ⟨q, q2, -⟩
      · exact ⟨k, fo, mr, h, hm, o5, o6, L, hk, hkm, e, e2⟩
      · exact ⟨k, fo, mr, h, hm, o5, o6, L, hk, hkm, e, e2⟩
      · exact absurd m0 q2
    · rcases x_expl_2 L.1.1.1.1.1 e with ⟨-, e⟩ | ⟨-, -, e⟩ | ⟨q, q2, -⟩
      · exact ⟨k, fo, mr, h, hm, o5, o6, L, hk, hkm, e, e2⟩
      · exact ⟨k, fo, mr, h, hm, o5, o6, L, hk, hkm, e, e2⟩
      · omega
    · rcases x_expl_2 L.1.1.1.1.1 e with ⟨q, -⟩ | ⟨-, q, -⟩ | ⟨-, -, e⟩
      · omega
      · exact absurd q m1
      · obtain ⟨⟨K, G7, hTm, V, M, Fb, hfo, bmr, PL⟩, FN0⟩ := L
        obtain ⟨d1, v1, h1, n1, z1, ec1, e⟩ := b_call (m2 := 26) (k := 1) (nL := 5) (as := [.ref 208, .ref 219]) (rest := []) (L := [some (.ref 208), some (.ref 219), none, none, none]) e (show fl_code 129 63 = some (18, [((26 : Nat) : Int), ((1 : Nat) : Int)], 66) by decide +kernel) rfl (by decide +kernel) rfl rfl rfl
        obtain ⟨h', hm', st, v, n5, o6', st6, bv, rx, E, e2⟩ := ex_runQ G K.sx M K.2.1 hTm V (fun t ht _ j hj => by
          have u := K.1.1.2.2.1 t (by omega) (by
            have k3 := K.1.1.2.1.1
            rw [k3, K.2.2 223 (by decide) (by decide)]
            omega)
          rw [u.2.2.2 j hj, K.2.2 234 (by decide) (by decide), M.2.2.2 234 _ (by decide) (by decide)]) hfo (PL m1) Fb ec1 e2
        obtain ⟨g1, g1a, K1, go1, s1⟩ := xk_go K
        have w := g1a _ _ ec1
        obtain ⟨w1, w2, w3⟩ := tri w
        rw [w1, w2, w3] at e
        rw [w] at rx
        obtain ⟨-, eg1, -⟩ := tri rx
        have e : Ev d 129 (66, [some (.ref 0), some (.int mo), some (.int mr), some (.int (Int32.ofNat k))], [], g1, fl_tot) r := e
        have e := x_expl_3 K1.1.1.1 e
        obtain ⟨d3, v3, h3, n3, z3, ec3, e⟩ := b_call (m2 := 131) (k := 0) (nL := 5) (as := [.ref 218]) (rest := []) (L := [some (.ref 218), none, none, none, none]) e (show fl_code 129 70 = some (18, [((131 : Nat) : Int), ((0 : Nat) : Int)], 73) by decide +kernel) rfl (by decide +kernel) rfl rfl rfl
        obtain ⟨g2, g2a, K2, f2, s2⟩ := xk_judge K1
        have ej := ec3
        rw [g2a _ _ ec3] at ej
        obtain ⟨w1, w2, w3⟩ := tri (g2a _ _ ec3)
        rw [w1, w2, w3] at e
        have e : Ev d 129 (73, [some (.ref 0), some (.int mo), some (.int mr), some (.int (Int32.ofNat k))], [], g2, fl_tot) r := e
        have e := x_expl_4 K2.1.1.1 e
        obtain ⟨d4, v4, h4, n4, z4, ec4, e⟩ := b_call (m2 := 132) (k := 0) (nL := 6) (as := [.ref 218]) (rest := []) (L := [some (.ref 218), none, none, none, none, none]) e (show fl_code 129 77 = some (18, [((132 : Nat) : Int), ((0 : Nat) : Int)], 80) by decide +kernel) rfl (by decide +kernel) rfl rfl rfl
        obtain ⟨g3, g3a, K3, f3, s3⟩ := xk_see K2
        have es4 := ec4
        rw [g3a _ _ ec4] at es4
        obtain ⟨w1, w2, w3⟩ := tri (g3a _ _ ec4)
        rw [w1, w2, w3] at e
        have e : Ev d 129 (80, [some (.ref 0), some (.int mo), some (.int mr), some (.int (Int32.ofNat k))], [], g3, fl_tot) r := e
        have e := x_expl_5 K3.1.1.1 e
        have cl : ∀ r : Nat, r = 208 ∨ r = 210 ∨ r = 211 → g3.1 r = g1.1 r := fun r hr => by
          rcases hr with rfl | rfl | rfl
          · rw [(f3 208 (by decide +kernel)).1, (f2 208 (by decide +kernel)).1]
          · rw [(f3 210 (by decide +kernel)).1, (f2 210 (by decide +kernel)).1]
          · rw [(f3 211 (by decide +kernel)).1, (f2 211 (by decide +kernel)).1]
        have en : g3.1 208 5 = Int32.ofNat st := by rw [cl 208 (Or.inl rfl), eg1, setI_no (by omega), setI_at]
        obtain ⟨d5, v5, h5, nn5, z5, ec5, e⟩ := b_call (m2 := 134) (k := 0) (nL := 4) (as := [.ref 218]) (rest := []) (L := [some (.ref 218), none, none, none]) e (show fl_code 129 84 = some (18, [((134 : Nat) : Int), ((0 : Nat) : Int)], 87) by decide +kernel) rfl (by decide +kernel) rfl rfl rfl
        obtain ⟨x, g4, g4a, K4, bx, NX⟩ := xk_plan K3 st6 en
        obtain ⟨w1, w2, w3⟩ := tri (g4a _ _ ec5)
        rw [w1, w2, w3] at e
        have e : Ev d 129 (87, [some (.ref 0), some (.int mo), some (.int mr), some (.int (Int32.ofNat k))], [.int x], g4, fl_tot) r := e
        have e := x_expl_6 K4.1.1.1 e
        rw [o32 (by omega)] at e
        have s4 : g4.1 218 7 = g3.1 218 7 := by
          rcases NX with ⟨-, -, y⟩ | ⟨s, c, -, -, y⟩
          · rw [y]
          · rw [y, planH_no (by decide)]
        -- the reference: weighed
        obtain ⟨⟨R, -, I, -, A, -, Fb'⟩, IV, FA⟩ := E
        have Tm' := R.1.2.2.2.2
        obtain ⟨hv, ehv⟩ : ∃ z, z = fl_setI hm' 223 14 v := ⟨_, rfl⟩
        rw [← ehv] at e2
        have Thv : TInv hv := by rw [ehv]; exact Tm'.w (r := 223) (k := 14) (lo := 0) (hi := 2) (by decide +kernel) bv
        have Fv : Fq [] [14] hm' hv := Fq.cells (fun K j h1 h2 _ => by rw [ehv, setI_no (by omega)]) (fun k hk => by
          simp only [List.mem_cons, List.not_mem_nil, or_false] at hk
          rw [ehv, setI_no (by omega)])
        have Iv : RI hv := I.fr Fv rfl
        obtain ⟨d6, v6, h6, n6, z6, ec6, e2⟩ := b_call (m2 := 209) (k := 1) (nL := 6) (as := [.ref 223, .int (Int32.ofNat k)]) (rest := []) (L := [some (.ref 223), some (.int (Int32.ofNat k)), none, none, none, none]) e2 (show fl_code 206 163 = some (18, [((209 : Nat) : Int), ((1 : Nat) : Int)], 166) by decide +kernel) rfl (by decide +kernel) rfl rfl rfl
        obtain ⟨hw, y1, y2, y3⟩ := c_weighs Thv Iv (run := (k : Int)) (by omega)
        have k6 := (ev_det ec6 (show Ev 9 209 (0, [some (.ref 223), some (.int (Int32.ofNat k)), none, none, none, none], [], hv, fl_tot) _ from by
          have := y1 9 (Nat.le_refl _)
          rw [rv31] at this
          exact this))
        have em6 := ec6
        rw [k6] at em6
        obtain ⟨w1, w2, w3⟩ := tri k6
        rw [w1, w2, w3] at e2
        have e2 : Ev d2 206 (166, [some (.ref 223), some (.int mo), some (.int (Int32.ofNat fo)), some (.int (Int32.ofNat k)), some (.int mr), some (.int n5), o6'], [], hw, fl_tot) r2 := e2
        have Mv : SM h0 hv := SM.low (by rw [ehv]; rfl) (fun K j hK => by rw [ehv, setI_no (by omega)]) R.1.2.1
        have Mw : SM h0 hw := SM.low y2.2.1 (fun K j hK => by
          rcases hK with ⟨rfl, hj⟩ | ⟨k1, k2⟩
          · rcases hj with rfl | rfl
            · exact y3.fc 0 (by decide)
            · exact y3.fc 4 (by decide)
          · have := y3.c (K := K - 192) (by omega) (by omega) (fun z => by
              have : ∀ q ∈ weKs, 81 ≤ q := by decide
              have := this _ z
              omega) j
            rw [show 192 + (K - 192) = K by omega] at this
            exact this) Mv
        have Iw : RI hw := Iv.fr y3 rfl
        have e15 : hw.1 223 15 = Int32.ofNat st := by
          have a := y3.fc 15 (by decide)
          have b2 := Fv.fc 15 (by decide)
          rw [a, b2]
          exact R.1.2.2.1
        have e2 := z_ex_10 Mw.1 e2
        rw [e15, o32 (by omega)] at e2
        have q90 : ∀ j : Nat, rd 90 (j : Int) hw = rd 90 (j : Int) hm' := fun j => (y3.k 90 _ rfl).trans (Fv.k 90 _ rfl)
        have q91 : ∀ j : Nat, rd 91 (j : Int) hw = rd 91 (j : Int) hm' := fun j => (y3.k 91 _ rfl).trans (Fv.k 91 _ rfl)
        have Aw : ARx b h0 g3 hw st := A.fr (fun j hj => by
          rw [cl 210 (Or.inr (Or.inl rfl)), cl 211 (Or.inr (Or.inr rfl)), eg1, setI_no (by omega), setI_no (by omega), setI_no (by omega), setI_no (by omega)]
          exact ⟨rfl, rfl⟩) (fun j hj => ⟨q90 j, q91 j⟩)
        have Fw : Fq exKs exFs b hw := Fb'.trans ((Fv.wide rfl rfl).trans (y3.wide rfl rfl))
        have b0 : ∀ j : Nat, j < 600 → 0 ≤ (hw.1 282 j).toInt ∧ (hw.1 282 j).toInt ≤ 4 := fun j hj => TI.rng y2.1 90 600 0 4 (by decide +kernel) (by decide) (by decide) (i := j) hj
        have gv : ∀ a j : Nat, ¬ (a = 208 ∧ (j = 5 ∨ j = 6)) → g1.1 a j = h'.1 a j := fun a j z => by rw [eg1, setI_no (by omega), setI_no (by omega)]
        have Rv : RR h0 g1 hv st := RR.out3 G R K1.1.1.1 (by rw [ehv]; exact R.1.2.1.1) (fun a j _ n => gv a j (by omega)) (fun a j _ _ => by rw [eg1]; rfl) (fun Q j kk => by rw [ehv, setI_no (by omega)]) Thv
        have hv' : ∀ Q j : Nat, ¬ (Q = 223 ∧ j = 14) → hv.1 Q j = hm'.1 Q j := fun Q j z => by rw [ehv, setI_no z]
        have FN1 : FND h0 k g1 hv := FN0.fr (fun j => by rw [(go1 221 (by decide +kernel)).1]) ⟨by rw [(go1 220 (by decide +kernel)).1], by rw [(go1 220 (by decide +kernel)).1], by rw [(go1 220 (by decide +kernel)).1]⟩ (by rw [(go1 218 (by decide +kernel)).1]) (fun j => by rw [hv' _ _ (by omega)]; exact FA.c (K := 92) (by decide) (by decide) (by decide) j) (fun j => by rw [hv' _ _ (by omega)]; exact FA.c (K := 81) (by decide) (by decide) (by decide) j)
        have FN2 : FND h0 (k + 1) g3 hw := weigh_both G Rv Iv (by rw [eg1, setI_at, ehv, setI_at]) (fun c j c5 j8 n => by
          rw [hv' _ _ (by omega), hv' _ _ (by omega)]
          exact IV c j c5 j8 n) (by omega) FN1 ej es4 em6
        have FN4 : ∀ hz : Hp, (∀ j : Nat, hz.1 284 j = hw.1 284 j) → (∀ j : Nat, hz.1 273 j = hw.1 273 j) → FND h0 (k + 1) g4 hz := fun hz z1 z2 => FN2.fr (fun j => by
          rcases NX with ⟨-, -, y⟩ | ⟨s, c, -, -, y⟩
          · rw [y]
          · rw [y, planH_no (by decide)]) (by
          rcases NX with ⟨-, -, y⟩ | ⟨s, c, -, -, y⟩
          · rw [y]; exact ⟨rfl, rfl, rfl⟩
          · rw [y, planH_no (by decide), planH_no (by decide), planH_no (by decide)]; exact ⟨rfl, rfl, rfl⟩) (by
          rcases NX with ⟨-, -, y⟩ | ⟨s, c, -, -, y⟩
          · rw [y]
          · rw [y, planH_no (by decide)]) z1 z2
        have G4 : g4.1 218 7 = h0.1 218 7 := by rw [s4, s3, s2, s1]; exact G7
        rcases z_la Mw.1 b0 st st6 e2 with ⟨a, la, la0, e2⟩ | ⟨s, a1, a2, a3, e2⟩
        · -- no more
          rcases NX with ⟨n1, n2, n3⟩ | ⟨s, c, n1, n2, n3⟩
          · rcases z_ex_12 Mw.1 e2 with ⟨-, e2⟩ | ⟨q, -⟩
            · rw [n2] at e
              exact ih (k + 1) fo (Int32.ofInt 0) g4 hw _ _ ⟨⟨K4, G4, y2.1, Iw.1, Mw, Fw, hfo, by decide, fun z => absurd (by decide) z⟩, FN4 hw (fun _ => rfl) (fun _ => rfl)⟩ (by omega) (by omega) (by omega) e e2
            · omega
          · exfalso
            obtain ⟨c1, c2, c3, c4, -⟩ := n1
            have nb := (nob_ar q5 Aw c1).mpr (a s c1)
            rw [nb c c3 c2] at c4
            cases c4
        · rcases NX with ⟨n1, n2, n3⟩ | ⟨s', c, n1, n2, n3⟩
          · exfalso
            have := (nob_ar q5 Aw a1).mp (n1 s a1)
            omega
          · obtain ⟨c1, c2, c3, c4, c5, c6⟩ := n1
            have es : s' = s := by
              by_cases z1 : s' < s
              · exfalso
                have := (nob_ar q5 Aw a1).mp (c6 s z1 a1)
                omega
              · by_cases z2 : s < s'
                · exfalso
                  have nb := (nob_ar q5 Aw c1).mpr (a3 s' z2 c1)
                  rw [nb c c3 c2] at c4
                  cases c4
                · omega
            subst es
            have esn : (Int32.ofNat s').toNatClampNeg = s' := o32c (by omega)
            have esi : (Int32.ofNat s').toInt = s' := i32n (by omega)
            rcases z_ex_12 Mw.1 e2 with ⟨q, -⟩ | ⟨-, e2⟩
            · omega
            · rw [esn, o32 (by omega)] at e2
              rw [n2] at e
              obtain ⟨gj, c0, u1, u2, u3, u4, u5, u6, u7⟩ := Aw s' c1
              obtain ⟨hz, ehz⟩ : ∃ z, z = fl_setI hw 282 s' (hw.1 282 s' + Int32.ofInt 1) := ⟨_, rfl⟩
              rw [← ehz] at e2
              have bs := b0 s' (by omega)
              have ai : (hw.1 282 s' + Int32.ofInt 1).toInt = (hw.1 282 s').toInt + 1 := add1 (y := 5) (by omega) (by omega)
              rw [rd282] at u3 u6
              rw [rd283] at u7
              have cg := cntA_bd gj 0
              have c0n := (nth_lt u2 q5 u3).1
              rw [u4, i32n (by omega)] at c3 c5
              rw [u5] at c4 c5
              obtain ⟨N1, N2⟩ := nxt_nth u2 q5 u3 (by omega) c2 c4 (fun c'' z1 z2 => c5 c'' (by omega) z2)
              have Tz : TInv hz := by
                rw [ehz]
                exact y2.1.a 282 _ 0 4 (by decide +kernel) (by decide +kernel) (by omega)
              have lz : ∀ K j : Nat, K ≠ 282 → hz.1 K j = hw.1 K j := fun K j z => by rw [ehz, setI_no (by omega)]
              have Fz : Fq [90] [] hw hz := Fq.cells (fun K j h1 h2 h3 => lz _ _ (by
                simp only [List.mem_cons, List.not_mem_nil, or_false] at h3
                omega)) (fun k _ => lz _ _ (by omega))
              have z90 : ∀ j : Nat, hz.1 282 j = if j = s' then hw.1 282 s' + Int32.ofInt 1 else hw.1 282 j := fun j => by
                by_cases y : j = s'
                · rw [if_pos y, y, ehz, setI_at]
                · rw [if_neg y, ehz, setI_no (by omega)]
              have Mz : SM h0 hz := SM.low (by rw [ehz]; rfl) (fun K j hK => lz K j (by omega)) Mw
              have Iz : RI hz := Iw.fr Fz rfl
              have chz : ∀ i : Int, 0 ≤ i → i < s' → rd 90 i hz = rd 90 i hw := fun i p1 p2 => by
                obtain ⟨q, rfl⟩ : ∃ q : Nat, i = (q : Int) := ⟨i.toNat, by omega⟩
                rw [rd282, rd282, z90, if_neg (by omega)]
              have pl : ∀ j : Nat, j < 600 → g4.1 219 j = if s' + 1 ≤ j then Int32.ofInt (-1) else if j = s' then Int32.ofNat c else g3.1 210 j := fun j hj => by
                rw [n3]
                show (if 219 = 219 ∧ s' + 1 ≤ j ∧ j < 600 then Int32.ofInt (-1) else (if 219 = 219 ∧ j = s' then Int32.ofNat c else (if 219 = 219 then (if 0 ≤ j ∧ j < 0 + s' then g3.1 210 (0 + (j - 0)) else g3.1 219 j) else g3.1 219 j))) = _
                by_cases y1 : s' + 1 ≤ j
                · rw [if_pos ⟨rfl, y1, hj⟩, if_pos y1]
                · rw [if_neg (fun y => y1 y.2.1), if_neg y1]
                  by_cases y2 : j = s'
                  · rw [if_pos ⟨rfl, y2⟩, if_pos y2]
                  · rw [if_neg (fun y => y2 y.2), if_neg y2, if_pos rfl, if_pos (by omega), show 0 + (j - 0) = j by omega]
              have PLn : PLx b h0 g4 hz 0 (s' + 1) := by
                refine ⟨fun j _ hj => ?_, fun j _ h1 h2 => by rw [pl j h2, if_pos h1]⟩
                by_cases y : j = s'
                · subst y
                  refine ⟨gj, c, Rea.ch (fun i p1 p2 => chz i p1 p2) u1, u2, ?_, ?_, ?_⟩
                  · rw [rd282, z90, if_pos rfl, ai]; exact N1
                  · rw [pl j (by omega), if_neg (by omega), if_pos rfl]
                  · rw [rd282, z90, if_pos rfl, ai]
                    omega
                · obtain ⟨gk, ck, t1, t2, t3, t4, t5, t6, t7⟩ := Aw j (by omega)
                  refine ⟨gk, ck, Rea.ch (fun i p1 p2 => chz i p1 (by omega)) t1, t2, ?_, ?_, ?_⟩
                  · rw [rd282, z90, if_neg y, ← rd282]; exact t3
                  · rw [pl j (by omega), if_neg (by omega), if_neg y]; exact t4
                  · rw [rd282, z90, if_neg y, ← rd282]; exact t6
              exact ih (k + 1) (s' + 1) (Int32.ofInt 1) g4 hz _ _ ⟨⟨K4, G4, Tz, Iz.1, Mz, Fw.trans (Fz.wide rfl rfl), by omega, by decide, fun _ => PLn⟩, FN4 hz (fun j => lz _ _ (by omega)) (fun j => lz _ _ (by omega))⟩ (by omega) (by omega) (by omega) e e2
