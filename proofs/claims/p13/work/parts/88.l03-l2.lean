
set_option maxRecDepth 20000
/-! RUN, BOTH SIDES, FROM ONE HEAP -/
/-- a run of the class's from h, a run of the reference's from a heap that was prepared alike -/
theorem run_law2 {h hx hm : Hp} {d d2 : Nat} {r2 : Option Value × Hp × Nat} (hT : TInv h) (hTm : TInv hm) (U : LI h) (V : SV hm) (F0 : hm.1 223 0 = h.1 223 0) (F4 : hm.1 223 4 = h.1 223 4) (F : ∀ K j : Nat, 224 ≤ K → K ≤ 234 → hm.1 K j = h.1 K j) (S1 : SH hm.2) (e : Ev d 26 (0, [some (.ref 208), some (.ref 222), none, none, none], [], h, fl_tot) (none, hx, fl_tot)) (e2 : Ev d2 153 (0, [some (.ref 223), none, none], [], hm, fl_tot) r2) : ∃ (h2 : Hp) (v : Int32) (st' : Nat), st' ≤ 600 ∧ r2 = (some (.int v), h2, fl_tot) ∧ RR h hx h2 st' ∧ RI h2 ∧ CHr hx h2 ∧ hx.1 208 6 = v ∧ hx.1 208 5 = Int32.ofNat st' ∧ h2.1 223 14 = v ∧ h2.1 223 13 = Int32.ofInt 1 := by
  obtain ⟨U1, C0, N, O⟩ := U
  have G := GS.of hT O
  have Q := qt_i hT
  have M : SM h hm := ⟨S1, F0, F4, F⟩
  obtain ⟨h', hm', v, st', a1, a2, a3, a4, a5, a6, a7, a8, a9, a10, a11⟩ := run_both G (SX.of hT U1 N O) M hT hTm V (fun j hj => by rw [F 233 j (by decide) (by decide)]; exact C0 j hj) (fun t ht _ j hj => by
    rw [F 234 _ (by decide) (by decide)]
    exact (U1.2.2.1 t (by omega) (by rw [U1.2.1.1]; omega)).2.2.2 j hj) e e2
  obtain ⟨-, k, -⟩ := tri a2
  subst k
  exact ⟨hm', v, st', a1, a3, a4, a6, a7, a8, a9, a10, a11⟩
theorem x_run25 {h h1 : Hp} {d : Nat} {w : Value} (U : LI h) (hT : TInv h) (X : Ev d 25 (0, [some (.ref 0)], [], h, fl_tot) (some w, h1, fl_tot)) : ∃ (hx : Hp) (d' : Nat), Ev d' 26 (0, [some (.ref 208), some (.ref 222), none, none, none], [], h, fl_tot) (none, hx, fl_tot) ∧ XK h hx ∧ w = .int (hx.1 208 6) ∧ h1 = fl_setI hx 0 5 (Int32.ofInt 1) ∧ hx.1 218 7 = h.1 218 7 := by
  have K : XK h h := ⟨U, hT, fun _ _ _ => rfl⟩
  have e := x_r25_0 K.1.1.1 X
  obtain ⟨d4, v4, h4, n4, z4, ec4, e⟩ := b_call (m2 := 26) (k := 1) (nL := 5) (as := [.ref 208, .ref 222]) (rest := []) (L := [some (.ref 208), some (.ref 222), none, none, none]) e (show fl_code 25 8 = some (18, [((26 : Nat) : Int), ((1 : Nat) : Int)], 11) by decide +kernel) rfl (by decide +kernel) rfl rfl rfl
  obtain ⟨g4, g4a, K4, -, s4⟩ := xk_run K
  obtain ⟨w1, w2, w3⟩ := tri (g4a _ _ ec4)
  rw [w1, w2, w3] at e ec4
  have e : Ev d 25 (11, [some (.ref 0)], [], g4, fl_tot) (some w, h1, fl_tot) := e
  obtain ⟨q1, q2, -⟩ := tri (x_r25_1 K4.1.1.1 e)
  cases q1
  exact ⟨g4, d4, ec4, K4, by first | rfl | (rw [setI_no (by omega)]), q2, s4⟩
/-- run: both answers are alike -/
theorem run_case {h h1 h2 : Hp} {d d2 : Nat} {w v : Value} (U : LI h) (hT : TInv h) (hT1 : TInv h1) (V : SV h1) (X : Ev d 25 (0, [some (.ref 0)], [], h, fl_tot) (some w, h1, fl_tot)) (M : Ev d2 153 (0, [some (.ref 223), none, none], [], h1, fl_tot) (some v, h2, fl_tot)) : w = v ∧ ∃ (hx : Hp) (u : Int32) (st' : Nat), st' ≤ 600 ∧ h1 = fl_setI hx 0 5 (Int32.ofInt 1) ∧ RR h hx h2 st' ∧ RI h2 ∧ hx.1 208 6 = u ∧ hx.1 208 5 = Int32.ofNat st' ∧ h2.1 223 14 = u ∧ h2.1 223 13 = Int32.ofInt 1 ∧ hx.1 218 7 = h.1 218 7 := by
  obtain ⟨hx, d', e, K, ew, eh, s7⟩ := x_run25 U hT X
  have q : ∀ r j : Nat, 223 ≤ r → r < 285 → h1.1 r j = h.1 r j := fun r j z1 z2 => by rw [eh, setI_no (by omega), K.2.2 r z1 z2]
  obtain ⟨h3, u, st', a1, a2, a3, a4, -, a6, a7, a8, a9⟩ := run_law2 hT hT1 U V (q _ _ (by decide) (by decide)) (q _ _ (by decide) (by decide)) (fun K j z1 z2 => q K j (by omega) (by omega)) (by rw [eh]; exact K.1.1.1) e M
  obtain ⟨b1, b2, -⟩ := tri a2
  cases b1
  subst b2
  exact ⟨by rw [ew, a6], hx, u, st', a1, eh, a3, a4, a6, a7, a8, a9, s7⟩
