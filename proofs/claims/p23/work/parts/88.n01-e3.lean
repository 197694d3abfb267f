
set_option maxRecDepth 20000
/-! THE REFERENCE: a step writes the outcome and the answer of its own act alone -/
def KP (x : Int) (h h' : Hp) : Prop := ∀ i : Int, 0 ≤ i → i ≠ x → rd 46 i h' = rd 46 i h ∧ rd 47 i h' = rd 47 i h
theorem KP.refl (x : Int) (h : Hp) : KP x h h := fun _ _ _ => ⟨rfl, rfl⟩
theorem KP.trans {x : Int} {a b c : Hp} (p : KP x a b) (q : KP x b c) : KP x a c := fun i hi n => ⟨(q i hi n).1.trans (p i hi n).1, (q i hi n).2.trans (p i hi n).2⟩
theorem KP.of {Ks : List Nat} {fs : List Int} {x : Int} {h h' : Hp} (F : Fq Ks fs h h') (hc : (!Ks.contains 46 && !Ks.contains 47) = true) : KP x h h' := fun i _ _ => by
  simp only [Bool.and_eq_true] at hc
  exact ⟨F.k 46 i hc.1, F.k 47 i hc.2⟩
def OvQ (h : Hp) (c x : Int) (h' : Hp) : Prop := OvP h c x h' ∧ KP x h h'
def BgQ (h : Hp) (c : Int) (h' : Hp) : Prop := BgP h c h' ∧ KP (8 * c + rd 51 c h) h h'
def FnQ (h : Hp) (c x st : Int) (h' : Hp) : Prop := FnP h c x st h' ∧ KP x h h'
def DoesQ (h : Hp) (c : Int) (h' : Hp) : Prop := DoesP h c h' ∧ KP (8 * c + rd 51 c h) h h'
theorem c_overK {h : Hp} (hT : TInv h) {c x how v : Int} (b_c : 0 ≤ c ∧ c ≤ 4) (b_x : 0 ≤ x ∧ x ≤ 39) (b_how : 0 ≤ how ∧ how ≤ 6) (b_v : -2147483648 ≤ v ∧ v ≤ 2147483647) (hm : rd 31 16 h ≤ 79) (hn : rd 51 c h ≤ 7) : ∃ h', (∀ d, 3 ≤ d → Ev d 160 (0, fl_enter 5 [rv 31, iv c, iv x, iv how, iv v], [], h, fl_tot) (none, h', fl_tot)) ∧ Nx h h' ∧ OvQ h c x h' := by
  have b_m : 0 ≤ rd 31 16 h ∧ rd 31 16 h ≤ 80 := rdt_ok hT 31 16
  have b_s : 0 ≤ rd 31 15 h ∧ rd 31 15 h ≤ 600 := rdt_ok hT 31 15
  have b_n := rda_ok hT 51 5 0 8 rfl (i := c) (by omega) (by omega)
  rcases s160 hT b_c b_x b_how b_v (LVs.self (fl_enter 5 [rv 31, iv c, iv x, iv how, iv v])) with ⟨marks7, f0, rfl, f2⟩ | ⟨marks7, steps10, now15, g1, g2, g3, g4, g5, g6, g7, rfl, rfl, rfl, rfl, rfl, rfl, rfl, f0, f1, f2, rfl, f4, f5, rfl, f7, f8, f9, rfl, f11⟩ | ⟨marks7, steps10, now15, g1, g2, g3, g4, g5, g6, g7, g8, g9, g10, g11, rfl, rfl, rfl, rfl, rfl, rfl, rfl, rfl, rfl, rfl, rfl, f0, f1, f2, rfl, f4, f5, rfl, f7, f8, f9, rfl, T, K⟩
  all_goals first | (exfalso; omega) | skip
  refine ⟨_, K, T, ⟨((((((((((((Fq.refl h).put 43 _ _ rfl).put 44 _ _ rfl).put 45 _ _ rfl).put 50 _ _ rfl).putf 16 _ rfl).put 47 _ _ rfl).put 46 _ _ rfl).put 51 _ _ rfl).put 52 _ _ rfl).put 53 _ _ rfl).put 59 _ _ rfl), fun i hi => ?_, fun i hi => ?_, fun i hi => ?_, fun i hi => ?_, ?_, fun i hi => ?_, fun i hi => ?_⟩, fun i hi hx => ⟨by simp (disch := omega) only [rdk, rd_wr, if_neg hx], by simp (disch := omega) only [rdk, rd_wr, if_neg hx]⟩⟩ <;> simp (disch := omega) only [rdk, rd_wr, if_true]
theorem c_endsK {h : Hp} (hT : TInv h) {c x : Int} (b_c : 0 ≤ c ∧ c ≤ 4) (b_x : 0 ≤ x ∧ x ≤ 39) (hm : rd 31 16 h ≤ 79) (hn : rd 51 c h ≤ 7) : ∃ h', (∀ d, 4 ≤ d → Ev d 177 (0, fl_enter 7 [rv 31, iv c, iv x], [], h, fl_tot) (none, h', fl_tot)) ∧ Nx h h' ∧ OvQ h c x h' := by
  have go : ∀ {how v : Int} {lv : List (Option Value)}, (0 ≤ how ∧ how ≤ 6) → (-2147483648 ≤ v ∧ v ≤ 2147483647) → LVs [some (rv 31), some (iv c), some (iv x), none, none, none, none] lv → (∀ d vv hh rr, 2 ≤ d → Ev d 160 (0, fl_enter 5 [rv 31, iv c, iv x, iv how, iv v], [], h, fl_tot) (vv, hh, fl_tot) → Ev (d + 1) 177 (269, lv, vv.toList ++ [], hh, fl_tot) rr → Ev (d + 1) 177 (0, fl_enter 7 [rv 31, iv c, iv x], [], h, fl_tot) rr) → ∃ h', (∀ d, 4 ≤ d → Ev d 177 (0, fl_enter 7 [rv 31, iv c, iv x], [], h, fl_tot) (none, h', fl_tot)) ∧ Nx h h' ∧ OvQ h c x h' := by
    intro how v lv q1 q2 Hl K1
    obtain ⟨h', u1, u2, u3⟩ := c_overK hT b_c b_x q1 q2 hm hn
    obtain ⟨T, K⟩ := s177r u2.1 b_c b_x Hl
    refine ⟨h', fun d hd => ?_, u2, u3⟩
    obtain ⟨d, rfl⟩ : ∃ d', d = d' + 1 := ⟨d - 1, by omega⟩
    exact K1 d _ _ _ (by omega) (u1 d (by omega)) (K (d + 1) (by omega))
  rcases s177 hT b_c b_x (LVs.self (fl_enter 7 [rv 31, iv c, iv x])) with ⟨trayOf6, kind7, opOf9, noted11, isShort13, isShort14, n15, n16, n17, n18, f0, f1, f2, f3, f4, f5, f6, f7, f8, f9, rfl, rfl, rfl, rfl, f14, f15, f16, f17, f18, rfl, f20, rfl, f22, rfl, rfl, rfl, rfl, f27, T, lv, Hl, K⟩ | ⟨trayOf6, kind7, opOf9, noted11, isShort13, isShort14, f0, f1, f2, f3, f4, f5, rfl, rfl, rfl, rfl, f10, f11, f12, f13, f14, rfl, f16, rfl, f18, f19, T, lv, Hl, K⟩ | ⟨trayOf6, kind7, opOf9, noted11, isShort13, threw15, isShort16, n17, n18, n19, n20, f0, f1, f2, f3, f4, f5, f6, f7, f8, f9, f10, rfl, rfl, rfl, rfl, f15, f16, f17, f18, f19, rfl, f21, rfl, f23, rfl, f25, rfl, rfl, rfl, rfl, f30, T, lv, Hl, K⟩ | ⟨trayOf6, kind7, opOf9, noted11, isShort13, threw15, isShort16, f0, f1, f2, f3, f4, f5, f6, rfl, rfl, rfl, rfl, f11, f12, f13, f14, f15, rfl, f17, rfl, f19, rfl, f21, f22, T, lv, Hl, K⟩ | ⟨trayOf6, kind7, opOf9, noted11, isShort13, threw15, isShort16, n17, n18, n19, n20, f0, f1, f2, f3, f4, f5, f6, f7, f8, f9, f10, rfl, rfl, rfl, rfl, f15, f16, f17, f18, f19, rfl, f21, rfl, f23, rfl, f25, rfl, rfl, rfl, rfl, f30, T, lv, Hl, K⟩ | ⟨trayOf6, kind7, opOf9, noted11, isShort13, threw15, isShort16, f0, f1, f2, f3, f4, f5, f6, rfl, rfl, rfl, rfl, f11, f12, f13, f14, f15, rfl, f17, rfl, f19, rfl, f21, f22, T, lv, Hl, K⟩ | ⟨trayOf6, kind7, opOf9, noted11, f0, f1, f2, f3, rfl, rfl, rfl, rfl, f8, f9, T, lv, Hl, K⟩ | ⟨trayOf6, kind7, opOf9, noted11, notedHas13, f0, f1, f2, f3, f4, rfl, rfl, rfl, rfl, f9, rfl, f11, f12, T, lv, Hl, K⟩ | ⟨trayOf6, kind7, opOf9, noted11, notedHas13, f0, f1, f2, f3, f4, rfl, rfl, rfl, rfl, f9, rfl, f11, f12, T, lv, Hl, K⟩ | ⟨trayOf6, kind7, opOf9, noted11, aOf13, f0, f1, f2, f3, f4, rfl, rfl, rfl, rfl, f9, f10, rfl, f12, T, lv, Hl, K⟩ | ⟨trayOf6, kind7, opOf9, noted11, notedHas13, f0, f1, f2, f3, f4, rfl, rfl, rfl, rfl, f9, rfl, f11, f12, f13, T, lv, Hl, K⟩ | ⟨trayOf6, kind7, opOf9, noted11, notedHas13, f0, f1, f2, f3, f4, rfl, rfl, rfl, rfl, f9, rfl, f11, f12, f13, T, lv, Hl, K⟩ | ⟨trayOf6, kind7, opOf9, noted11, notedClosed13, f0, f1, f2, f3, f4, rfl, rfl, rfl, rfl, rfl, f10, f11, f12, f13, T, lv, Hl, K⟩ | ⟨trayOf6, kind7, opOf9, noted11, notedClosed13, f0, f1, f2, f3, f4, rfl, rfl, rfl, rfl, rfl, f10, f11, f12, f13, T, lv, Hl, K⟩ | ⟨trayOf6, kind7, opOf9, noted11, notedClosed13, aOf15, f0, f1, f2, f3, f4, f5, rfl, rfl, rfl, rfl, rfl, f11, f12, rfl, f14, T, lv, Hl, K⟩ | ⟨trayOf6, kind7, opOf9, noted11, notedClosed13, f0, f1, f2, f3, f4, rfl, rfl, rfl, rfl, rfl, f10, f11, f12, f13, T, lv, Hl, K⟩ | ⟨trayOf6, kind7, opOf9, noted11, notedClosed13, f0, f1, f2, f3, f4, rfl, rfl, rfl, rfl, rfl, f10, f11, f12, f13, T, lv, Hl, K⟩ | ⟨trayOf6, kind7, opOf9, noted11, notedClosed13, aOf15, f0, f1, f2, f3, f4, f5, rfl, rfl, rfl, rfl, rfl, f11, f12, rfl, f14, T, lv, Hl, K⟩ | ⟨trayOf6, kind7, opOf9, noted11, f0, f1, f2, f3, rfl, rfl, rfl, rfl, f8, T, lv, Hl, K⟩ | ⟨trayOf6, kind7, opOf9, noted11, notedHas13, f0, f1, f2, f3, f4, rfl, rfl, rfl, rfl, rfl, f10, f11, T, lv, Hl, K⟩ | ⟨trayOf6, kind7, opOf9, noted11, notedHas13, f0, f1, f2, f3, f4, rfl, rfl, rfl, rfl, rfl, f10, f11, T, lv, Hl, K⟩
  all_goals exact go (by omega) (by first | omega | exact rd_int _ _ _) ((((Hl.fg 3 rfl).fg 4 rfl).fg 5 rfl).fg 6 rfl) K
theorem c_beginK {h : Hp} (hT : TInv h) {c : Int} (b_c : 0 ≤ c ∧ c ≤ 4) (hn : rd 51 c h ≤ 7) (hm : rd 49 (8 * c + rd 51 c h) h = -1 → rd 31 16 h ≤ 79) : ∃ h' ls', LVs [some (rv 31), some (iv c), some (iv (8 * c + rd 51 c h)), none, none, none] ls' ∧ (∀ d r, 3 ≤ d → Ev d 158 (35, ls', [], h', fl_tot) r → Ev d 158 (0, fl_enter 6 [rv 31, iv c], [], h, fl_tot) r) ∧ Nx h h' ∧ BgQ h c h' := by
  have b_m : 0 ≤ rd 31 16 h ∧ rd 31 16 h ≤ 80 := rdt_ok hT 31 16
  have b_s : 0 ≤ rd 31 15 h ∧ rd 31 15 h ≤ 600 := rdt_ok hT 31 15
  have b_n := rda_ok hT 51 5 0 8 rfl (i := c) (by omega) (by omega)
  rcases s158a hT b_c (LVs.self (fl_enter 6 [rv 31, iv c])) with ⟨n3, now5, n6, f0, f1, f2, rfl, rfl, rfl, f6⟩ | ⟨n3, now5, n6, beginMark8, f0, f1, f2, f3, rfl, rfl, rfl, rfl, f8, T, lv, Hl, K⟩ | ⟨n3, now5, n6, beginMark8, marks10, f0, f1, f2, f3, f4, rfl, rfl, rfl, rfl, f9, rfl, f11⟩ | ⟨n3, now5, n6, beginMark8, marks10, steps13, g1, g2, g3, g4, g5, g6, rfl, rfl, rfl, rfl, rfl, rfl, f0, f1, f2, f3, f4, f5, rfl, rfl, rfl, rfl, f10, rfl, f12, f13, rfl, f15, f16, f17, T, lv, Hl, K⟩
  all_goals first | (exfalso; omega) | skip
  · exact ⟨h, lv, Hl, K, T, Or.inl ⟨by assumption, rfl⟩, KP.refl _ _⟩
  · refine ⟨_, lv, Hl, K, T, Or.inr ⟨by assumption, ((((((Fq.refl h).put 43 _ _ rfl).put 44 _ _ rfl).put 45 _ _ rfl).put 49 _ _ rfl).putf 16 _ rfl).put 47 _ _ rfl, fun i hi => ?_, ?_, fun i hi => ?_, fun i hi => ?_⟩, fun i hi hx => ⟨by simp (disch := omega) only [rdk, rd_wr, if_neg hx], by simp (disch := omega) only [rdk, rd_wr, if_neg hx]⟩⟩ <;> simp (disch := omega) only [rdk, rd_wr, if_true]
theorem c_finK {h : Hp} (hT : TInv h) {ls : List (Option Value)} {c x st : Int} (b_c : 0 ≤ c ∧ c ≤ 4) (b_x : 0 ≤ x ∧ x ≤ 39) (b_st : 0 ≤ st ∧ st ≤ 203) (ha : rd 32 (rd 36 x h) h = 0 → 0 ≤ rd 38 x h ∧ rd 38 x h ≤ 31) (hop : rd 32 (rd 36 x h) h = 1 → 0 ≤ rd 37 x h ∧ rd 37 x h ≤ 1) (hp : -1 ≤ rd 52 c h ∧ rd 52 c h ≤ 18) (hm : rd 31 16 h ≤ 79) (hn : rd 51 c h ≤ 7) (hl : LVs [some (rv 31), some (iv c), some (iv x), some (iv st), none, none] ls) :
    ∃ h' ls', LVs [some (rv 31), some (iv c), some (iv x), some (iv st), none, none] ls' ∧ (∀ d r, 5 ≤ d → Ev d 158 (312, ls', [], h', fl_tot) r → Ev d 158 (256, ls, [], h, fl_tot) r) ∧ Nx h h' ∧ FnQ h c x st h' := by
  have F := (Fq.refl (Ks := [52]) (fs := []) h).put 52 c (rd 52 c h + 1) rfl
  have U : Up 52 c (rd 52 c h + 1) h (wr 52 c (rd 52 c h + 1) h) := Up.wr (by omega) (by omega) (by omega)
  have e52 : rd 52 c (wr 52 c (rd 52 c h + 1) h) = rd 52 c h + 1 := rd_eq (by omega) (by omega)
  have fe : ∀ {lv : List (Option Value)}, Nx h (wr 52 c (rd 52 c h + 1) h) → LVs [some (rv 31), some (iv c), some (iv x), some (iv st), none, none] lv → ((rd 59 c h ≠ 0 ∧ 200 ≤ st) ∨ (rd 53 c h = 0 ∧ stS h x c (rd 52 c h + 1) = 0)) → (∀ d vv hh rr, 4 ≤ d → Ev d 177 (0, fl_enter 7 [rv 31, iv c, iv x], [], wr 52 c (rd 52 c h + 1) h, fl_tot) (vv, hh, fl_tot) → Ev (d + 1) 158 (312, lv, vv.toList ++ [], hh, fl_tot) rr → Ev (d + 1) 158 (256, ls, [], h, fl_tot) rr) → ∃ h' ls', LVs [some (rv 31), some (iv c), some (iv x), some (iv st), none, none] ls' ∧ (∀ d r, 5 ≤ d → Ev d 158 (312, ls', [], h', fl_tot) r → Ev d 158 (256, ls, [], h, fl_tot) r) ∧ Nx h h' ∧ FnQ h c x st h' := by
    intro lv T Hl hc K
    obtain ⟨h', u1, u2, u3⟩ := c_endsK T.1 b_c b_x (by rw [F.f 16 rfl]; exact hm) (by rw [F.k 51 c rfl]; exact hn)
    refine ⟨h', lv, Hl, fun d r hd e => ?_, T.trans u2, ⟨_, F, U, Or.inl ⟨hc, u3.1⟩⟩, (KP.of F rfl).trans u3.2⟩
    obtain ⟨d, rfl⟩ : ∃ d', d = d' + 1 := ⟨d - 1, by omega⟩
    exact K d _ _ _ (by omega) (u1 d (by omega)) e
  have fs : ∀ {lv : List (Option Value)}, Nx h (wr 52 c (rd 52 c h + 1) h) → LVs [some (rv 31), some (iv c), some (iv x), some (iv st), none, none] lv → ¬ (rd 59 c h ≠ 0 ∧ 200 ≤ st) → rd 53 c h = 0 → (∀ d vv hh rr, 2 ≤ d → Ev d 157 (0, fl_enter 9 [rv 31, iv x, iv c, iv (rd 52 c (wr 52 c (rd 52 c h + 1) h))], [], wr 52 c (rd 52 c h + 1) h, fl_tot) (vv, hh, fl_tot) → Ev (d + 1) 158 (303, lv, vv.toList ++ [], hh, fl_tot) rr → Ev (d + 1) 158 (256, ls, [], h, fl_tot) rr) → ∃ h' ls', LVs [some (rv 31), some (iv c), some (iv x), some (iv st), none, none] ls' ∧ (∀ d r, 5 ≤ d → Ev d 158 (312, ls', [], h', fl_tot) r → Ev d 158 (256, ls, [], h, fl_tot) r) ∧ Nx h h' ∧ FnQ h c x st h' := by
    intro lv T Hl hns hw K
    have S := c_stepOf T.1 (x := x) (c := c) (i := rd 52 c h + 1) b_x b_c (by omega) (by rw [F.k 36 x rfl, F.k 32 _ rfl, F.k 38 x rfl]; exact ha)
    rw [stS_fr F rfl] at S
    rw [e52] at K
    have rg := stF_range (k := rd 32 (rd 36 x h) h) (op := rd 37 x h) (a := rd 38 x h) (f := rd 34 (rd 36 x h) h) (c := c) (i := rd 52 c h + 1) ha hop b_c (by omega)
    have K1 := K
    have T0 := T
    rcases s158e T.1 b_c b_x b_st (s2 := stS h x c (rd 52 c h + 1)) (by unfold stS; omega) Hl with ⟨f0, f1, T, lv, Hl, K⟩ | ⟨f0, f1, T, lv, Hl, K⟩
    · refine ⟨_, lv, Hl, fun d r hd e => ?_, T0, ⟨_, F, U, Or.inr ⟨by omega, rfl⟩⟩, KP.of F rfl⟩
      obtain ⟨d, rfl⟩ : ∃ d', d = d' + 1 := ⟨d - 1, by omega⟩
      exact K1 d _ _ _ (by omega) (S d (by omega)) (K (d + 1) _ (by omega) e)
    · refine fe T0 Hl (Or.inr ⟨hw, by omega⟩) fun d vv hh rr hd e1 e2 => ?_
      exact K1 d _ _ _ (by omega) (S d (by omega)) (K d _ _ _ (by omega) e1 e2)
  rcases s158d hT b_c b_x b_st hl with ⟨pos6, f0, rfl, f2⟩ | ⟨pos6, isShort8, isWaiting10, g1, rfl, f0, f1, f2, rfl, rfl, f5, rfl, f7, T, lv, Hl, K⟩ | ⟨pos6, isShort8, isWaiting10, pos11, g1, rfl, f0, f1, f2, f3, rfl, rfl, f6, rfl, f8, rfl, T, lv, Hl, K⟩ | ⟨pos6, isShort8, g1, rfl, f0, f1, f2, rfl, rfl, f5, f6, T, lv, Hl, K⟩ | ⟨pos6, isShort8, isWaiting10, g1, rfl, f0, f1, f2, f3, rfl, rfl, f6, f7, rfl, f9, T, lv, Hl, K⟩ | ⟨pos6, isShort8, isWaiting10, pos11, g1, rfl, f0, f1, f2, f3, f4, rfl, rfl, f7, f8, rfl, f10, rfl, T, lv, Hl, K⟩
  all_goals first | (exfalso; omega) | skip
  · exact ⟨_, lv, Hl, fun d r hd e => K d r (by omega) e, T, ⟨_, F, U, Or.inr ⟨by omega, rfl⟩⟩, KP.of F rfl⟩
  · exact fs T Hl (by omega) (by omega) K
  · exact fe T Hl (Or.inl ⟨by omega, by omega⟩) fun d vv hh rr hd e1 e2 => K d vv hh rr (by omega) e1 e2
  · exact ⟨_, lv, Hl, fun d r hd e => K d r (by omega) e, T, ⟨_, F, U, Or.inr ⟨by omega, rfl⟩⟩, KP.of F rfl⟩
  · exact fs T Hl (by omega) (by omega) K
theorem c_doesK {h : Hp} (hT : TInv h) {c : Int} (b_c : 0 ≤ c ∧ c ≤ 4) (hn : rd 51 c h ≤ 7) (hm : rd 31 16 h ≤ 79) (hm2 : rd 49 (8 * c + rd 51 c h) h = -1 → rd 31 16 h ≤ 78) (hst : rd 31 15 h ≤ 599) (M : MP h) (hs : 0 ≤ rd 31 42 h ∧ rd 31 42 h ≤ 90000) (hA : actOK h (8 * c + rd 51 c h)) (hp : rd 53 c h = 0 → (0 ≤ rd 52 c h ∧ rd 52 c h ≤ 18) ∧ stS h (8 * c + rd 51 c h) c (rd 52 c h) ≠ 0) (hw : ∀ i, 0 ≤ i → i < rd 31 4 h → rd 53 i h = 1 → rd 51 i h ≤ 7)
    (hmy : stS h (8 * c + rd 51 c h) c (rd 52 c h) = 2 → rd 53 c h = 0 → rd 32 (rd 36 (8 * c + rd 51 c h) h) h = 1 ∧ rd 37 (8 * c + rd 51 c h) h = 0 ∨ rd 32 (rd 36 (8 * c + rd 51 c h) h) h = 2 ∧ rd 37 (8 * c + rd 51 c h) h < 2 → rd 69 (rd 36 (8 * c + rd 51 c h) h) h ≤ 39) :
    ∃ h', (∀ d, 8 ≤ d → Ev d 158 (0, fl_enter 6 [rv 31, iv c], [], h, fl_tot) (none, h', fl_tot)) ∧ Nx h h' ∧ DoesQ h c h' := by
  have b_n := rda_ok hT 51 5 0 8 rfl (i := c) (by omega) (by omega)
  obtain ⟨h1, l1, a1, a2, a3, a4, aK⟩ := c_beginK hT b_c hn (fun z => by have := hm2 z; omega)
  have F1 : Fq [43, 44, 45, 47, 49] [16] h h1 := by
    rcases a4 with ⟨-, e⟩ | ⟨-, e, -⟩
    · rw [e]; exact Fq.refl h
    · exact e
  have hm1 : rd 31 16 h1 ≤ 79 := by
    rcases a4 with ⟨-, e⟩ | ⟨e0, -, -, e, -⟩
    · rw [e]; exact hm
    · have := hm2 e0; omega
  have b_x : 0 ≤ 8 * c + rd 51 c h ∧ 8 * c + rd 51 c h ≤ 39 := by omega
  have b_p := rda_ok hT 52 5 (-1) 20 rfl (i := c) (by omega) (by omega)
  have b_w := rda_ok hT 53 5 0 1 rfl (i := c) (by omega) (by omega)
  generalize hx : 8 * c + rd 51 c h = x at *
  have e1 : rd 32 (rd 36 x h1) h1 = rd 32 (rd 36 x h) h := by rw [F1.k 36 x rfl, F1.k 32 _ rfl]
  have e2 : rd 37 x h1 = rd 37 x h := F1.k 37 x rfl
  have e3 : rd 38 x h1 = rd 38 x h := F1.k 38 x rfl
  have e4 : rd 53 c h1 = rd 53 c h := F1.k 53 c rfl
  have e5 : rd 52 c h1 = rd 52 c h := F1.k 52 c rfl
  have b_op := rda_ok hT 37 40 0 4 rfl (i := x) (by omega) (by omega)
  unfold actOK at hA
  have tick : ∀ {g : Hp} {v : Int}, v = rd 31 15 g → rd 31 15 g ≤ 599 → TInv g → TickP g (wr 31 15 (v + 1) g) := fun {g} {v} e l t => by
    have : 0 ≤ rd 31 15 g ∧ rd 31 15 g ≤ 600 := rdt_ok t 31 15
    refine ⟨(Fq.refl _).putf 15 _ rfl, ?_⟩
    rw [e]
    exact rd_eq (by omega) (by omega)
  have K0 := a2
  rcases s158b a3.1 b_c b_x a1 with ⟨isWaiting5, pos7, f0, f1, rfl, f3, rfl, T, lv, Hl, K⟩ | ⟨isWaiting5, f0, rfl, f2, T, lv, Hl, K⟩
  · have K1 := K
    have hw0 : rd 53 c h = 0 := by omega
    obtain ⟨p1, p2⟩ := hp hw0
    have S := c_stepOf a3.1 (x := x) (c := c) (i := rd 52 c h1) b_x b_c (by omega) (by rw [e1, e3]; exact fun z => hA.2 (Or.inl z))
    have es : stS h1 x c (rd 52 c h1) = stS h x c (rd 52 c h) := by rw [e5]; exact stS_fr F1 rfl x c _
    have rg := stF_range (k := rd 32 (rd 36 x h) h) (op := rd 37 x h) (a := rd 38 x h) (f := rd 34 (rd 36 x h) h) (c := c) (i := rd 52 c h) (fun z => hA.2 (Or.inl z)) (fun z => ⟨b_op.1, hA.1 z⟩) b_c p1.1
    have r1 := stF_1 (k := rd 32 (rd 36 x h) h) (op := rd 37 x h) (a := rd 38 x h) (f := rd 34 (rd 36 x h) h) (c := c) (i := rd 52 c h) b_c p1.1 (fun z => ⟨b_op.1, hA.1 z⟩) (fun z => hA.2 (Or.inl z))
    have r4 := stF_4 (k := rd 32 (rd 36 x h) h) (op := rd 37 x h) (a := rd 38 x h) (f := rd 34 (rd 36 x h) h) (c := c) (i := rd 52 c h) b_c p1.1 (fun z => ⟨b_op.1, hA.1 z⟩) (fun z => hA.2 (Or.inl z))
    have es2 : stF (rd 32 (rd 36 x h) h) (rd 37 x h) (rd 38 x h) (rd 34 (rd 36 x h) h) c (rd 52 c h) = stS h x c (rd 52 c h) := rfl
    rw [es2] at rg r1 r4
    have hsv : ∀ st, st = stS h1 x c (rd 52 c h1) → True := fun _ _ => trivial
    obtain ⟨h2, l2, q1, q2, q3, q4⟩ := c_step a3.1 (x := x) (c := c) (st := stS h1 x c (rd 52 c h1)) b_c b_x (M.fr F1 rfl) (by rw [F1.f 42 rfl]; exact hs) (by rw [es]; omega) (by rw [es, e1]; exact r1) (by rw [es, e1]; exact r4) (by rw [e1, e2, e3]; exact hA.2) (by rw [es, e1, e2, F1.k 36 x rfl, F1.k 69 _ rfl]; exact fun z => hmy z hw0) (fun i w1 w2 w3 => by
      rw [F1.f 4 rfl] at w2
      rw [F1.k 53 i rfl] at w3
      rw [F1.k 51 i rfl]
      exact hw i w1 w2 w3) Hl
    have F2 := q4.fr
    have P2 := q4.pos b_c.1
    obtain ⟨h3, l3, y1, y2, y3, y4, yK⟩ := c_finK q3.1 (x := x) (c := c) (st := stS h1 x c (rd 52 c h1)) b_c b_x (by rw [es]; omega) (by rw [F2.k 36 x rfl, F2.k 32 _ rfl, F2.k 38 x rfl, e1, e3]; exact fun z => hA.2 (Or.inl z)) (by rw [F2.k 36 x rfl, F2.k 32 _ rfl, F2.k 37 x rfl, e1, e2]; exact fun z => ⟨b_op.1, hA.1 z⟩) (by omega) (by rw [F2.f 16 rfl]; exact hm1) (by rw [F2.k 51 c rfl, F1.k 51 c rfl]; exact hn) q1
    have h15 : rd 31 15 h3 ≤ 599 := by
      obtain ⟨g, g1, -, g3⟩ := y4
      have : rd 31 15 h3 = rd 31 15 g := by
        rcases g3 with ⟨-, o⟩ | ⟨-, e⟩
        · exact o.1.f 15 rfl
        · rw [e]
      rw [this, g1.f 15 rfl, F2.f 15 rfl, F1.f 15 rfl]
      exact hst
    rcases s158f y3.1 b_c b_x (st := stS h1 x c (rd 52 c h1)) (by rw [es]; omega) y1 with ⟨steps5, f0, rfl, f2⟩ | ⟨steps5, g1, rfl, f0, rfl, T, K⟩
    all_goals first | (exfalso; omega) | skip
    have TK := tick rfl h15 y3.1
    refine ⟨_, fun d hd => ?_, a3.trans (q3.trans (y3.trans T)), ⟨h1, a4, Or.inr ⟨by omega, h2, h3, by rw [hx]; exact q4, by rw [hx]; exact y4, TK⟩⟩, by rw [hx]; exact aK.trans ((KP.of F2 rfl).trans (yK.trans (KP.of TK.1 rfl)))⟩
    obtain ⟨d, rfl⟩ : ∃ d', d = d' + 1 := ⟨d - 1, by omega⟩
    exact K0 (d + 1) _ (by omega) (K1 d _ _ _ (by omega) (S d (by omega)) (q2 (d + 1) _ (by omega) (y2 (d + 1) _ (by omega) (K (d + 1) (by omega)))))
  · have K1 := K
    obtain ⟨h2, u1, u2, u3, uK⟩ := c_overK a3.1 (x := x) (c := c) (how := 4) (v := 0) b_c b_x (by omega) (by omega) hm1 (by rw [F1.k 51 c rfl]; exact hn)
    have h15 : rd 31 15 h2 ≤ 599 := by
      rw [u3.1.f 15 rfl, F1.f 15 rfl]
      exact hst
    rcases s158o u2.1 b_c b_x Hl with ⟨steps4, f0, rfl, f2⟩ | ⟨steps4, g1, rfl, f0, rfl, T, K⟩
    all_goals first | (exfalso; omega) | skip
    have TK := tick rfl h15 u2.1
    refine ⟨_, fun d hd => ?_, a3.trans (u2.trans T), ⟨h1, a4, Or.inl ⟨by omega, h2, by rw [hx]; exact u3, TK⟩⟩, by rw [hx]; exact aK.trans (uK.trans (KP.of TK.1 rfl))⟩
    obtain ⟨d, rfl⟩ : ∃ d', d = d' + 1 := ⟨d - 1, by omega⟩
    exact K0 (d + 1) _ (by omega) (K1 d _ _ _ (by omega) (u1 d (by omega)) (K (d + 1) (by omega)))
theorem c_does2K {h : Hp} (hT : TInv h) (I : RI h) {c : Int} (h0 : 0 ≤ c) (h1 : c < rd 31 4 h) (a : ableV h c = 1) (hst : rd 31 15 h ≤ 599) :
    ∃ h', (∀ d, 8 ≤ d → Ev d 158 (0, fl_enter 6 [rv 31, iv c], [], h, fl_tot) (none, h', fl_tot)) ∧ KP (8 * c + rd 51 c h) h h' := by
  have bd := BD.of hT
  have hc4 : c ≤ 4 := by have := bd.1; omega
  have C := I.2.1 c h0 h1
  have hn : rd 51 c h < rd 35 c h := by
    have := ableV_now a
    have := C.1
    omega
  have p := I.pre hT h0 h1 hn
  have q := C.2.1 hn
  obtain ⟨h', e1, e2, e3⟩ := c_doesK hT (c := c) ⟨h0, hc4⟩ p.1 p.2.1 p.2.2.1 hst I.2.2.2.2.1 ⟨I.2.2.2.2.2.1, by have := I.2.2.2.2.2.2; omega⟩ p.2.2.2.1 (fun _ => ⟨⟨q.1, by omega⟩, q.2.2.2⟩) p.2.2.2.2.1 p.2.2.2.2.2
  exact ⟨h', e1, e3.2⟩
