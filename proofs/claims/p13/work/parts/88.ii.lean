
set_option maxRecDepth 20000
/-! WHAT THE REFERENCE'S METHODS LEAVE ALONE -/
abbrev bKs : List Nat := [43, 44, 45, 46, 47, 48, 49, 50, 51, 52, 53, 54, 55, 56, 57, 58, 59, 60, 61, 62, 63, 64, 65, 66, 67, 68, 69, 70, 71, 72, 73, 74, 75, 76, 77, 78, 79, 80, 81, 82, 83, 84, 85, 86, 87, 88, 89, 90, 91, 92]
abbrev bFs : List Int := [13, 14, 15, 16, 42, 56, 57, 60, 64, 68, 69, 74]
def PubF (h : Hp) (m nL : Nat) (as : List Value) : Prop := ∃ v h', (∀ d, 14 ≤ d → Ev d m (0, fl_enter nL as, [], h, fl_tot) (v, h', fl_tot)) ∧ Fq bKs bFs h h'
theorem pubF {h : Hp} {m nL : Nat} {as : List Value} {v : Option Value} {h' : Hp} {D : Nat} (K : ∀ d, D ≤ d → Ev d m (0, fl_enter nL as, [], h, fl_tot) (v, h', fl_tot)) (hD : D ≤ 14) (F : Fq bKs bFs h h') : PubF h m nL as := ⟨v, h', fun d hd => K d (by omega), F⟩
theorem fc_explore {h : Hp} (hT : TInv h) (G : RG h) {most : Int} (b_most : -2147483648 ≤ most ∧ most ≤ 2147483647) : PubF h 206 7 [rv 31, iv most] := by
  rcases s206 hT b_most (LVs.self (fl_enter 7 [rv 31, iv most])) with ⟨f0, f1, f2, T, K⟩ | ⟨f0, f1, f2, f3, T, K⟩ | ⟨gone3, n4, f0, f1, f2, f3, f4, f5, rfl, rfl, f8, T, lv, Hl, K⟩ | ⟨gone3, n4, f0, f1, f2, f3, f4, f5, rfl, rfl, f8, T, K⟩
  · exact pubF K (by omega) (Fq.refl h)
  · exact pubF K (by omega) (Fq.refl h)
  · have b_m : 1 ≤ most ∧ most ≤ 60 := by omega
    have K0 := K
    obtain ⟨h1, l1, u1, u2, u3, u4⟩ := c_ex_a b_m 6 0 lv h hT (by omega) (by omega) Hl
    obtain ⟨h2, l2, fo, runs, more, y1, y2, y3, y4, y5, y6, y7, y8, y9⟩ := c_ex_l (b := h1) b_m 61 0 0 1 l1 h1 u3.1 (G.1.fr u4 rfl) (Fq.refl h1) (by omega) (by omega) (by omega) (by omega) (by omega) (fun _ i hi => by omega) u1
    have e74 : rd 31 74 h2 = rd 31 74 h := (y9.f 74 rfl).trans (u4.f 74 rfl)
    have b74 : 0 ≤ rd 31 74 h2 ∧ rd 31 74 h2 ≤ 1000 := rdt_ok y7.1 31 74
    have fin : ∀ {v w : Int} {lv : List (Option Value)}, Nx h2 (wr 31 74 w (wr 81 0 v h2)) → LVs [some (rv 31), some (iv most), some (iv fo), some (iv runs), some (iv more), none, none] lv → (∀ d vv hh rr, 2 ≤ d → Ev d 153 (0, fl_enter 3 [rv 31], [], wr 31 74 w (wr 81 0 v h2), fl_tot) (vv, hh, fl_tot) → Ev (d + 1) 206 (273, lv, vv.toList ++ [], hh, fl_tot) rr → Ev (d + 1) 206 (243, l2, [], h2, fl_tot) rr) → PubF h 206 7 [rv 31, iv most] := fun {v w lv} T Hl K1 => by
      have x := ((Fq.refl (Ks := [81]) (fs := [74]) h2).put 81 0 v rfl).putf 74 w rfl
      obtain ⟨z, h3, r1, r2, r3, r4, r5⟩ := c_run T.1 (y8.fr x rfl)
      obtain ⟨z', b_z, ez⟩ := iv_norm z
      rw [ez] at r1
      have T0 := T
      obtain ⟨T, K⟩ := s206o r2.1 b_m y1 y2 y4 (v := z') b_z Hl
      refine pubF (D := 12) (v := some (iv runs)) (fun d hd => ?_) (by omega) ((u4.wide rfl rfl).trans ((y9.wide rfl rfl).trans ((x.wide rfl rfl).trans (r4.wide rfl rfl))))
      obtain ⟨d, rfl⟩ : ∃ d', d = d' + 1 := ⟨d - 1, by omega⟩
      exact K0 (d + 1) _ (by omega) (u2 (d + 1) _ (by omega) (y6 (d + 1) _ (by omega) (K1 d _ _ _ (by omega) (r1 d (by omega)) (K (d + 1) (by omega)))))
    rcases s206n y7.1 b_m y1 y2 y4 y5 with ⟨gone7, n8, g1, rfl, f0, f1, f2, f3, rfl, rfl, f6⟩ | ⟨gone7, n8, g1, g2, rfl, rfl, f0, f1, f2, f3, rfl, rfl, T, lv, Hl, K⟩ | ⟨gone7, n8, g1, rfl, f0, f1, f2, f3, rfl, rfl, f6⟩ | ⟨gone7, n8, g1, g2, rfl, rfl, f0, f1, f2, f3, rfl, rfl, T, lv, Hl, K⟩
    all_goals first | (exfalso; omega) | skip
    · exact fin T Hl (fun d vv hh rr hd e1 e2 => K d vv hh rr (by omega) e1 e2)
    · exact fin T Hl (fun d vv hh rr hd e1 e2 => K d vv hh rr (by omega) e1 e2)
  · exact pubF K (by omega) (Fq.refl h)
theorem fp_run {h : Hp} (hT : TInv h) (G : RG h) : PubF h 153 3 [rv 31] := by
  obtain ⟨v, h', r1, r2, r3, r4, r5⟩ := c_run hT G.1
  exact pubF r1 (by omega) (r4.wide rfl rfl)
