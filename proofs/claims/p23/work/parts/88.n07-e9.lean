
set_option maxRecDepth 20000
/-! EXPLORE: what is found, to the end -/
theorem z_zeroQ {mo : Int32} {d2 : Nat} {r2 : Option Value × Hp × Nat} : ∀ (f k : Nat) (hm : Hp), SH hm.2 → TInv hm → k ≤ 5 → 5 - k ≤ f → Ev d2 206 (30, [some (.ref 223), some (.int mo), some (.int (Int32.ofNat k)), none, none, none, none], [], hm, fl_tot) r2 → ∃ hm' : Hp, TInv hm' ∧ hm'.2 = hm.2 ∧ (∀ K j : Nat, K ≠ 273 → hm'.1 K j = hm.1 K j) ∧ ((∀ j : Nat, k ≤ j → j < 5 → hm'.1 273 j = Int32.ofInt 0) ∧ ∀ j : Nat, j < k → hm'.1 273 j = hm.1 273 j) ∧ Ev d2 206 (55, [some (.ref 223), some (.int mo), some (.int (Int32.ofInt 0)), some (.int (Int32.ofInt 0)), some (.int (Int32.ofInt 1)), none, none], [], hm', fl_tot) r2 := by
  intro f
  induction f with
  | zero =>
    intro k hm S T hk hf e
    rcases z_ex_1 S e with ⟨q5, e⟩ | ⟨q, -⟩
    · exact ⟨hm, T, rfl, fun _ _ _ => rfl, ⟨fun j z1 z2 => by rw [i32n (by omega)] at q5; omega, fun _ _ => rfl⟩, e⟩
    · rw [i32n (by omega)] at q
      omega
  | succ f ih =>
    intro k hm S T hk hf e
    rcases z_ex_1 S e with ⟨q5, e⟩ | ⟨q, e⟩
    · exact ⟨hm, T, rfl, fun _ _ _ => rfl, ⟨fun j z1 z2 => by rw [i32n (by omega)] at q5; omega, fun _ _ => rfl⟩, e⟩
    · rw [i32n (by omega)] at q
      rw [o32 (by omega), o32c (by omega)] at e
      obtain ⟨hm', a1, a2, a3, ⟨a5, a6⟩, a4⟩ := ih (k + 1) (fl_setI hm 273 k (Int32.ofInt 0)) S (T.full 273 _ _ (by decide +kernel) (by decide +kernel)) (by omega) (by omega) e
      refine ⟨hm', a1, a2, fun K j z => by rw [a3 K j z, setI_no (by omega)], ⟨fun j z1 z2 => ?_, fun j z => by rw [a6 j (by omega), setI_no (by omega)]⟩, a4⟩
      by_cases z : j = k
      · rw [z, a6 k (by omega), setI_at]
      · exact a5 j (by omega) z2
/-- what explore has found is alike -/
theorem explore_found {h h1 h2 : Hp} {d d2 : Nat} {mo : Int32} {w v : Value} (U : LI h) (G7 : h.1 218 7 = h.1 223 74) (hT : TInv h) (hT1 : TInv h1) (V : SV h1) (X : Ev d 129 (0, [some (.ref 0), some (.int mo), none, none], [], h, fl_tot) (some w, h1, fl_tot)) (M : Ev d2 206 (0, [some (.ref 223), some (.int mo), none, none, none, none, none], [], h1, fl_tot) (some v, h2, fl_tot)) : (h1 = h ∧ h2 = h) ∨ ∀ j : Nat, j < 5 → h1.1 220 j = h2.1 273 j := by
  have K0 : XK h h := ⟨U, hT, fun _ _ _ => rfl⟩
  have X0 := X
  -- the class's heap, the reference's
  have hx0 := x_explore U hT X
  have S1 : SH h1.2 ∧ ∀ r j : Nat, 223 ≤ r → r < 285 → h1.1 r j = h.1 r j := by
    rcases hx0 with (w0 | w0) | ⟨k, d', hL, hR, -, -, K, w0⟩
    · rw [(tri w0).2.1]; exact ⟨K0.1.1.1, fun _ _ _ _ => rfl⟩
    · rw [(tri w0).2.1]; exact ⟨K0.1.1.1, fun _ _ _ _ => rfl⟩
    · rw [(tri w0).2.1]
      exact ⟨K.1.1.1, fun r j h1 h2 => by rw [setI_no (by omega), K.2.2 r h1 h2]⟩
  obtain ⟨S1, q1⟩ := S1
  have M0 := z_ex_0 S1 M
  obtain ⟨d3, v3, h3, n3, z3, ec3, M0⟩ := b_call (m2 := 143) (k := 3) (nL := 3) (as := [.int mo, .int (Int32.ofInt 1), .int (Int32.ofInt 60)]) (rest := []) (L := [some (.int mo), some (.int (Int32.ofInt 1)), some (.int (Int32.ofInt 60))]) M0 (show fl_code 206 4 = some (19, [((143 : Nat) : Int), ((3 : Nat) : Int)], 7) by decide +kernel) rfl (by decide +kernel) rfl rfl rfl
  have i1 : (Int32.ofInt 1).toInt = 1 := by decide
  have i60 : (Int32.ofInt 60).toInt = 60 := by decide
  have eg : h1.1 223 74 = h.1 218 7 := by rw [q1 _ _ (by decide) (by decide), G7]
  have refused : ∀ {y : Int32}, (some w, h1, fl_tot) = (some (Value.int y), h, fl_tot) → (some v, h2, fl_tot) = (some (Value.int y), h1, fl_tot) → w = v ∧ (h1 = h ∧ h2 = h) := fun {y} a b => by
    obtain ⟨a1, a2, -⟩ := tri a
    obtain ⟨b1, b2, -⟩ := tri b
    cases a1
    cases b1
    exact ⟨rfl, a2, by rw [b2, a2]⟩
  rcases xm_in ec3 with ⟨c1, w3⟩ | ⟨c1, w3⟩
  · obtain ⟨w1, w2, w3⟩ := tri w3
    rw [w1, w2, w3] at M0
    have M0 : Ev d2 206 (7, [some (.ref 223), some (.int mo), none, none, none, none, none], [.int (Int32.ofInt 1)], h1, fl_tot) (some v, h2, fl_tot) := M0
    rcases z_ex_0b S1 M0 with ⟨-, c2, M0⟩ | ⟨-, c2, M0⟩ | ⟨q, -⟩
    · -- both go on
      rw [eg] at c2
      rcases x_expl_0 U.1.1 X with ⟨q, -⟩ | ⟨-, q2, -, e⟩ | ⟨-, -, q, -⟩ | ⟨-, q, -⟩
      · omega
      · obtain ⟨d4, v4, h4, n4, z4, ec4, e⟩ := b_call (m2 := 130) (k := 0) (nL := 1) (as := [.ref 218]) (rest := []) (L := [some (.ref 218)]) e (show fl_code 129 36 = some (18, [((130 : Nat) : Int), ((0 : Nat) : Int)], 39) by decide +kernel) rfl (by decide +kernel) rfl rfl rfl
        obtain ⟨g1, g1a, K1, eg1⟩ := xk_beg K0
        obtain ⟨w1, w2, w3⟩ := tri (g1a _ _ ec4)
        rw [w1, w2, w3] at e
        have e : Ev d 129 (39, [some (.ref 0), some (.int mo), none, none], [], g1, fl_tot) (some w, h1, fl_tot) := e
        have e := x_expl_1 K1.1.1.1 e
        have g7 : g1.1 218 7 = h.1 218 7 := by
          rw [eg1, setI_no (by omega)]
          show (if 218 = 220 ∧ 7 < 5 then Int32.ofInt 0 else if 218 = 219 ∧ 7 < 600 then Int32.ofInt (-1) else h.1 218 7) = _
          rw [if_neg (by omega), if_neg (by omega)]
        have pl : ∀ j : Nat, j < 600 → g1.1 219 j = Int32.ofInt (-1) := fun j hj => by
          rw [eg1, setI_no (by omega)]
          show (if 219 = 220 ∧ j < 5 then Int32.ofInt 0 else if 219 = 219 ∧ j < 600 then Int32.ofInt (-1) else h.1 219 j) = _
          rw [if_neg (by omega), if_pos ⟨rfl, hj⟩]
        obtain ⟨hb, a1, a2, a3, ⟨a5, -⟩, M0⟩ := z_zeroQ 5 0 h1 S1 hT1 (by omega) (by omega) M0
        have Mb : SM h hb := by
          refine ⟨by rw [a2]; exact S1, ?_, ?_, fun K j z1 z2 => ?_⟩
          · rw [a3 _ _ (by decide), q1 _ _ (by decide) (by decide)]
          · rw [a3 _ _ (by decide), q1 _ _ (by decide) (by decide)]
          · rw [a3 _ _ (by omega), q1 _ _ (by omega) (by omega)]
        have Fb : Fq [81] [] h1 hb := Fq.cells (fun K j z1 z2 z3 => a3 _ _ (by
          simp only [List.mem_cons, List.not_mem_nil, or_false] at z3
          omega)) (fun k _ => a3 _ _ (by decide))
        have Vb : SV hb := V.fr Fb rfl
        have f5 : ∀ j : Nat, j < 5 → g1.1 220 j = Int32.ofInt 0 := fun j hj => by
          rw [eg1, setI_no (by omega)]
          show (if 220 = 220 ∧ j < 5 then Int32.ofInt 0 else _) = _
          rw [if_pos ⟨rfl, hj⟩]
        have FN0 : FND h 0 g1 hb := ⟨⟨by rw [f5 1 (by omega), a5 1 (by omega) (by omega)], by rw [f5 2 (by omega), a5 2 (by omega) (by omega)], by rw [f5 3 (by omega), a5 3 (by omega) (by omega)]⟩, 0, Nat.le_refl _, by rw [eg1, setI_at]; decide, by rw [a5 4 (by omega) (by omega)]; decide, fun s hs => by omega, fun i hi => by omega, fun s c j hs => by omega⟩
        obtain ⟨k, fo, mr, hE, hmE, o5, o6, L, hk, hkm, e, M0⟩ := exp_lQ (b := hb) hT U q2 60 0 0 (Int32.ofInt 1) g1 hb none none ⟨⟨K1, g7, a1, Vb, Mb, Fq.refl hb, by omega, by decide, fun _ => ⟨fun j _ hj => by omega, fun j _ _ hj => pl j hj⟩⟩, FN0⟩ (by omega) (by omega) (by omega) e M0
        obtain ⟨⟨KE, GE, TmE, VE, ME, FE, -, bmr, -⟩, FNE⟩ := L
        have e := x_expl_7 KE.1.1.1 e
        obtain ⟨d5, v5, h5, nn5, z5, ec5, e⟩ := b_call (m2 := 135) (k := 2) (nL := 3) (as := [.ref 218, .int (Int32.ofNat k), .int mr]) (rest := []) (L := [some (.ref 218), some (.int (Int32.ofNat k)), some (.int mr)]) e (show fl_code 129 100 = some (18, [((135 : Nat) : Int), ((2 : Nat) : Int)], 103) by decide +kernel) rfl (by decide +kernel) rfl rfl rfl
        obtain ⟨g3, g3a, K3, eg3⟩ := xk_end KE hk bmr
        obtain ⟨w1, w2, w3⟩ := tri (g3a _ _ ec5)
        rw [w1, w2, w3] at e
        have e : Ev d 129 (103, [some (.ref 0), some (.int mo), some (.int mr), some (.int (Int32.ofNat k))], [], g3, fl_tot) (some w, h1, fl_tot) := e
        have e := x_expl_8 K3.1.1.1 e
        obtain ⟨d6, v6, h6, n6, z6, ec6, e⟩ := b_call (m2 := 26) (k := 1) (nL := 5) (as := [.ref 208, .ref 222]) (rest := []) (L := [some (.ref 208), some (.ref 222), none, none, none]) e (show fl_code 129 111 = some (18, [((26 : Nat) : Int), ((1 : Nat) : Int)], 114) by decide +kernel) rfl (by decide +kernel) rfl rfl rfl
        obtain ⟨g4, g4a, K4, ru4, s4⟩ := xk_run K3
        obtain ⟨w1, w2, w3⟩ := tri (g4a _ _ ec6)
        rw [w1, w2, w3] at e ec6
        have e : Ev d 129 (114, [some (.ref 0), some (.int mo), some (.int mr), some (.int (Int32.ofNat k))], [], g4, fl_tot) (some w, h1, fl_tot) := e
        obtain ⟨f1, f2, -⟩ := tri (x_expl_9 K4.1.1.1 e)
        have g37 : g3.1 218 7 = h.1 218 7 + Int32.ofNat k := by rw [eg3, setI_at, GE]
        -- the reference's end
        have fin : ∀ {y : Int32}, y = (if mr.toInt = 0 then Int32.ofInt 1 else Int32.ofInt 0) → Ev d2 206 (270, [some (.ref 223), some (.int mo), some (.int (Int32.ofNat fo)), some (.int (Int32.ofNat k)), some (.int mr), o5, o6], [.ref 223], fl_setI (fl_setI hmE 273 0 y) 223 74 (hmE.1 223 74 + Int32.ofNat k), fl_tot) (some v, h2, fl_tot) → (h1 = h ∧ h2 = h) ∨ ∀ j : Nat, j < 5 → h1.1 220 j = h2.1 273 j := fun {y} hy N => by
          obtain ⟨hF, ehF⟩ : ∃ z, z = fl_setI (fl_setI hmE 273 0 y) 223 74 (hmE.1 223 74 + Int32.ofNat k) := ⟨_, rfl⟩
          rw [← ehF] at N
          have e74 : hmE.1 223 74 = h1.1 223 74 := by
            have := FE.fc 74 (by decide)
            rw [this, a3 _ _ (by decide)]
          have b74 : 0 ≤ (h1.1 223 74).toInt ∧ (h1.1 223 74).toInt ≤ 1000 := rdt_ok hT1 31 74
          have sm : (hmE.1 223 74 + Int32.ofNat k).toInt = (h1.1 223 74).toInt + k ∧ (h1.1 223 74).toInt + k ≤ 1000 := by
            have c3 : (h1.1 223 74 + mo).toInt = (h1.1 223 74).toInt + mo.toInt := by
              rw [Int32.toInt_add]
              exact i_bm (by omega) (by omega)
            rw [← eg, c3] at c2
            have ek : (Int32.ofNat k).toInt = k := i32n (by omega)
            rw [e74, Int32.toInt_add, ek, i_bm (by omega) (by omega)]
            omega
          have TF : TInv hF := by
            rw [ehF]
            exact (TmE.full 273 _ _ (by decide +kernel) (by decide +kernel)).w (r := 223) (k := 74) (lo := 0) (hi := 1000) (by decide +kernel) (by omega)
          have lF : ∀ K j : Nat, K ≠ 273 → ¬ (K = 223 ∧ j = 74) → hF.1 K j = hmE.1 K j := fun K j z1 z2 => by rw [ehF, setI_no (by omega), setI_no (by omega)]
          have FF : Fq [81] [74] hmE hF := Fq.cells (fun K j z1 z2 z3 => lF _ _ (by
            simp only [List.mem_cons, List.not_mem_nil, or_false] at z3
            omega) (by omega)) (fun k' hk' => lF _ _ (by decide) (by
            simp only [List.mem_cons, List.not_mem_nil, or_false] at hk'
            omega))
          have VF : SV hF := VE.fr FF rfl
          have MF : SM h hF := SM.low (by rw [ehF]; rfl) (fun K j hK => lF K j (by omega) (by omega)) ME
          obtain ⟨d7, v7, h7, n7, z7, ec7, N⟩ := b_call (m2 := 153) (k := 0) (nL := 3) (as := [.ref 223]) (rest := []) (L := [some (.ref 223), none, none]) N (show fl_code 206 270 = some (18, [((153 : Nat) : Int), ((0 : Nat) : Int)], 273) by decide +kernel) rfl (by decide +kernel) rfl rfl rfl
          have k3 : ∀ K j : Nat, 223 ≤ K → K < 285 → g3.1 K j = h.1 K j := fun K j z1 z2 => by rw [K3.2.2 K z1 z2]
          obtain ⟨hW, u, st', b1, b2, b3, b4, -, b6, b7, b8, b9⟩ := run_law2 K3.2.1 TF K3.1 VF (by rw [MF.2.1, k3 _ _ (by decide) (by decide)]) (by rw [MF.2.2.1, k3 _ _ (by decide) (by decide)]) (fun K j z1 z2 => by rw [MF.2.2.2 K j z1 z2, k3 _ _ (by omega) (by omega)]) MF.1 ec6 ec7
          have ec7' := ec7
          rw [b2] at ec7'
          obtain ⟨w1, w2, w3⟩ := tri b2
          rw [w1, w2, w3] at N
          have N : Ev d2 206 (273, [some (.ref 223), some (.int mo), some (.int (Int32.ofNat fo)), some (.int (Int32.ofNat k)), some (.int mr), o5, o6], [.int u], hW, fl_tot) (some v, h2, fl_tot) := N
          obtain ⟨x1, x2, -⟩ := tri (z_ex_14 b3.1.2.1.1 N)
          rw [x2]
          obtain ⟨v9, h9, r1, r2, r3, r4, r5⟩ := c_run TF VF
          have u9 : Ev 14 153 (0, [some (.ref 223), none, none], [], hF, fl_tot) (some (iv v9), h9, fl_tot) := by
            have := r1 14 (by omega)
            rw [rv31] at this
            exact this
          have e8 := congrArg (fun r => r.2.1) (ev_det ec7' u9)
          have e9 : ∀ j : Nat, h9.1 273 j = hF.1 273 j := fun j => r4.c (K := 81) (by decide) (by decide) (by decide) j
          obtain ⟨⟨n1, n2, n3⟩, m, -, n4, n5, -⟩ := FNE
          refine Or.inr fun j hj => ?_
          have e8' : ∀ j : Nat, hW.1 273 j = hF.1 273 j := fun j => (congrArg (fun q : Hp => q.1 273 j) e8).trans (e9 j)
          rw [e8' j, f2, setI_no (by omega), (ru4 220 (by decide +kernel)).1, eg3, ehF]
          rcases (show j = 0 ∨ j = 1 ∨ j = 2 ∨ j = 3 ∨ j = 4 by omega) with rfl | rfl | rfl | rfl | rfl
          · rw [setI_no (by omega), setI_no (by omega), setI_at, setI_no (by omega), setI_at, hy]
          · rw [setI_no (by omega), setI_no (by omega), setI_no (by omega), setI_no (by omega), setI_no (by omega)]; exact n1
          · rw [setI_no (by omega), setI_no (by omega), setI_no (by omega), setI_no (by omega), setI_no (by omega)]; exact n2
          · rw [setI_no (by omega), setI_no (by omega), setI_no (by omega), setI_no (by omega), setI_no (by omega)]; exact n3
          · rw [setI_no (by omega), setI_at, setI_no (by omega), setI_no (by omega), n4, n5]
        rcases z_ex_13 ME.1 M0 with ⟨m0, N⟩ | ⟨m0, N⟩
        · exact fin (by rw [if_pos m0]) N
        · exact fin (by rw [if_neg m0]) N
      · omega
      · omega
    · -- full
      rw [eg] at c2
      rcases x_expl_0 U.1.1 X with ⟨q, -⟩ | ⟨-, -, q, -⟩ | ⟨-, -, -, e⟩ | ⟨-, q, -⟩
      · omega
      · omega
      · obtain ⟨a, b⟩ := refused e M0
        exact Or.inl b
      · omega
    · exact absurd q (by decide)
  · obtain ⟨w1, w2, w3⟩ := tri w3
    rw [w1, w2, w3] at M0
    have M0 : Ev d2 206 (7, [some (.ref 223), some (.int mo), none, none, none, none, none], [.int (Int32.ofInt 0)], h1, fl_tot) (some v, h2, fl_tot) := M0
    rcases z_ex_0b S1 M0 with ⟨q, -⟩ | ⟨q, -⟩ | ⟨-, M0⟩
    · exact absurd (by decide) q
    · exact absurd (by decide) q
    · rcases x_expl_0 U.1.1 X with ⟨-, e⟩ | ⟨q1', q2, -, -⟩ | ⟨q1', q2, -, -⟩ | ⟨-, -, e⟩
      · obtain ⟨a, b⟩ := refused e M0
        exact Or.inl b
      · omega
      · omega
      · obtain ⟨a, b⟩ := refused e M0
        exact Or.inl b
