
set_option maxRecDepth 20000
/-! SIZES; WHAT IS TAKEN FOR THE SEARCH -/
def szV (h : Hp) (t : Int) : Int := if rd 32 t h = 3 then 4 else if rd 32 t h = 1 ∨ rd 32 t h = 2 then rd 69 t h else sumN 32 (fun k => rd 63 (32 * t + k) h)
theorem c_sizeOf_l {h : Hp} (hT : TInv h) {t : Int} (b_t : 0 ≤ t ∧ t ≤ 5) : ∀ (m : Nat) (k : Nat) (ls : List (Option Value)), 32 - k < m → k ≤ 32 → LVs [some (rv 31), some (iv t), some (iv (sumN k (fun k => rd 63 (32 * t + k) h))), some (iv k)] ls → ∀ d, 3 ≤ d → Ev d 185 (43, ls, [], h, fl_tot) (some (iv (sumN 32 (fun k => rd 63 (32 * t + k) h))), h, fl_tot) := by
  intro m
  induction m with
  | zero => intro k ls h1 h2; omega
  | succ m ih =>
    intro k ls h1 b_k hl d hd
    have bd : ∀ i : Int, 0 ≤ i → i < 32 → 0 ≤ rd 63 (32 * t + i) h ∧ rd 63 (32 * t + i) h ≤ 1 := fun i q1 q2 => rda_ok hT 63 192 0 1 rfl (i := 32 * t + i) (by omega) (by omega)
    have sb := sumN_bd (n := k) (f := fun k => rd 63 (32 * t + k) h) (fun i q1 q2 => bd i (by omega) (by omega))
    have step : k < 32 → sumN (k + 1) (fun k => rd 63 (32 * t + k) h) = sumN k (fun k => rd 63 (32 * t + k) h) + rd 63 (32 * t + (k : Int)) h := fun _ => rfl
    rcases s185l hT b_t (n := sumN k (fun k => rd 63 (32 * t + k) h)) (by omega) (k := (k : Int)) (by omega) hl with ⟨f0, f1, T, K⟩ | ⟨n6, n7, has8, f0, f1, f2, f3, f4, rfl, rfl, rfl, f8, T, lv, Hl, K⟩ | ⟨n6, n7, has8, f0, f1, f2, f3, f4, rfl, rfl, rfl, f8, T, lv, Hl, K⟩
    · have : k = 32 := by omega
      subst this
      exact K d hd
    · have e := step (by omega)
      rw [show rd 63 (32 * t + (k : Int)) h = 0 by omega, Int.add_zero] at e
      rw [← e] at Hl
      exact K d _ hd (ih (k + 1) lv (by omega) (by omega) Hl d hd)
    · have e := step (by omega)
      rw [show rd 63 (32 * t + (k : Int)) h = 1 by have := bd k (by omega) (by omega); omega] at e
      rw [← e] at Hl
      exact K d _ hd (ih (k + 1) lv (by omega) (by omega) Hl d hd)
theorem c_sizeOf {h : Hp} (hT : TInv h) {t : Int} (b_t : 0 ≤ t ∧ t ≤ 5) : ∀ d, 3 ≤ d → Ev d 185 (0, fl_enter 4 [rv 31, iv t], [], h, fl_tot) (some (iv (szV h t)), h, fl_tot) := by
  intro d hd
  unfold szV
  rcases s185 hT b_t (LVs.self (fl_enter 4 [rv 31, iv t])) with ⟨kind4, kind5, many7, f0, f1, f2, rfl, f4, rfl, f6, rfl, T, K⟩ | ⟨kind4, kind5, kind6, f0, f1, f2, rfl, f4, rfl, f6, rfl, f8, T, lv, Hl, K⟩ | ⟨kind4, kind5, kind6, many8, f0, f1, f2, f3, rfl, f5, rfl, f7, rfl, f9, rfl, T, K⟩ | ⟨kind4, f0, rfl, f2, T, K⟩
  · exact ret_eq (K d hd) (by rw [if_neg (by omega), if_pos (by omega)])
  · refine ret_eq (K d _ hd (c_sizeOf_l hT b_t 33 0 lv (by omega) (by omega) Hl d hd)) (by rw [if_neg (by omega), if_neg (by omega)])
  · exact ret_eq (K d hd) (by rw [if_neg (by omega), if_pos (by omega)])
  · exact ret_eq (K d hd) (by rw [if_pos (by omega)])
theorem szV_bd {h : Hp} (hT : TInv h) {t : Int} (b_t : 0 ≤ t ∧ t ≤ 5) : 0 ≤ szV h t ∧ szV h t ≤ 40 := by
  have b_m := rda_ok hT 69 6 0 40 rfl (i := t) (by omega) (by omega)
  have sb := sumN_bd (n := 32) (f := fun k => rd 63 (32 * t + k) h) (fun i q1 q2 => rda_ok hT 63 192 0 1 rfl (i := 32 * t + i) (by omega) (by omega))
  unfold szV
  repeat' split
  all_goals omega
theorem p_size {h : Hp} (hT : TInv h) (G : RG h) {tr : Int} (b_tr : -2147483648 ≤ tr ∧ tr ≤ 2147483647) : PubOut h 184 2 [rv 31, iv tr] := by
  have b0 : 0 ≤ rd 31 0 h ∧ rd 31 0 h ≤ 6 := rdt_ok hT 31 0
  rcases s184 hT b_tr (LVs.self (fl_enter 2 [rv 31, iv tr])) with ⟨trays3, f0, f1, rfl, f3, f4, T, K⟩ | ⟨trays3, f0, f1, rfl, f3, f4, f5, T, K⟩ | ⟨trays3, isRun4, f0, f1, f2, rfl, f4, f5, f6, rfl, f8, T, lv, Hl, K⟩ | ⟨trays3, isRun4, f0, f1, f2, rfl, f4, f5, f6, rfl, f8, T, K⟩
  · exact pub K (by omega) T G
  · exact pub K (by omega) T G
  · have z := c_sizeOf hT (t := tr) (by omega)
    have zb := szV_bd hT (t := tr) (by omega)
    have K0 := K
    obtain ⟨T, K⟩ := s184r hT b_tr (v := szV h tr) (by omega) Hl
    refine pub (D := 4) (v := some (iv (szV h tr))) (fun d hd => ?_) (by omega) T G
    obtain ⟨d, rfl⟩ : ∃ d', d = d' + 1 := ⟨d - 1, by omega⟩
    exact K0 d _ _ _ (by omega) (z d (by omega)) (K (d + 1) (by omega))
  · exact pub K (by omega) T G
theorem cntB_succ (h : Hp) (m : Nat) : cntB h (m + 1) = cntB h m + (if rd 44 (m : Int) h = 0 then 1 else 0) := rfl
theorem cntB_mono {h : Hp} : ∀ {m n : Nat}, m ≤ n → cntB h m ≤ cntB h n := by
  intro m n hmn
  induction n with
  | zero =>
    have : m = 0 := by omega
    subst this
    omega
  | succ n ih =>
    by_cases e : m = n + 1
    · subst e; omega
    · have := ih (by omega)
      rw [cntB_succ]
      split <;> omega
def TkP (h : Hp) (t : Int) (h' : Hp) : Prop := Fq [82] [60] h h' ∧ (0 ≤ rd 31 60 h' ∧ rd 31 60 h' ≤ 40) ∧ ∀ i, 0 ≤ i → i < rd 31 60 h' → actv h (rd 82 i h') ∧ rd 36 (rd 82 i h') h = t
theorem c_take_l {h0 : Hp} {t : Int} (b_t : 0 ≤ t ∧ t ≤ 5) (R : RM h0) (hc : cntB h0 (rd 31 16 h0).toNat ≤ 40) : ∀ (n : Nat) (m : Nat) (ls : List (Option Value)) (h : Hp), TInv h → 80 - m < n → m ≤ 80 → Fq [82] [60] h0 h → 0 ≤ rd 31 60 h → rd 31 60 h ≤ cntB h0 m → (m : Int) ≤ rd 31 16 h0 → (∀ i, 0 ≤ i → i < rd 31 60 h → actv h0 (rd 82 i h) ∧ rd 36 (rd 82 i h) h0 = t) → LVs [some (rv 31), some (iv t), some (iv m), none] ls →
    ∃ h', (∀ d, 3 ≤ d → Ev d 195 (7, ls, [], h, fl_tot) (none, h', fl_tot)) ∧ Nx h h' ∧ TkP h0 t h' := by
  intro n
  induction n with
  | zero => intro m ls h hT h1 h2; omega
  | succ n ih =>
    intro m ls h hT h1 b_m F c1 c2 c3 A hl
    have e16 : rd 31 16 h = rd 31 16 h0 := F.f 16 rfl
    have hh : rd 31 16 h ≤ 80 := (rdt_ok hT 31 16).2
    have e44 : rd 44 (m : Int) h = rd 44 (m : Int) h0 := F.k 44 _ rfl
    have e43 : rd 43 (m : Int) h = rd 43 (m : Int) h0 := F.k 43 _ rfl
    have mono : (m : Int) < rd 31 16 h0 → cntB h0 (m + 1) ≤ 40 := fun z => by
      have := cntB_mono (h := h0) (m := m + 1) (n := (rd 31 16 h0).toNat) (by omega)
      omega
    have sc := cntB_succ h0 m
    have go : ∀ {lv : List (Option Value)} {x : Int}, (m : Int) < rd 31 16 h0 → LVs [some (rv 31), some (iv t), some (iv ((m : Int) + 1)), some (iv x)] lv → (∀ d rr, 3 ≤ d → Ev d 195 (7, lv, [], h, fl_tot) rr → Ev d 195 (7, ls, [], h, fl_tot) rr) → ∃ h', (∀ d, 3 ≤ d → Ev d 195 (7, ls, [], h, fl_tot) (none, h', fl_tot)) ∧ Nx h h' ∧ TkP h0 t h' := by
      intro lv x z Hl K
      have c2' : rd 31 60 h ≤ cntB h0 (m + 1) := by
        rw [sc]
        split <;> omega
      obtain ⟨h', u1, u2, u3⟩ := ih (m + 1) lv h hT (by omega) (by omega) F c1 c2' (by omega) A (Hl.fg 3 rfl)
      exact ⟨h', fun d hd => K d _ hd (u1 d hd), u2, u3⟩
    rcases s195l hT b_t (m := (m : Int)) (by omega) hl with ⟨marks4, f0, rfl, f2, T, K⟩ | ⟨marks4, markAct6, markEnds8, f0, f1, f2, f3, rfl, f5, rfl, rfl, f8, T, lv, Hl, K⟩ | ⟨marks4, markAct6, markEnds8, trayOf10, f0, f1, f2, f3, f4, rfl, f6, rfl, rfl, f9, rfl, f11, T, lv, Hl, K⟩ | ⟨marks4, markAct6, markEnds8, trayOf10, endMark12, f0, f1, f2, f3, f4, f5, rfl, f7, rfl, rfl, f10, rfl, f12, rfl, f14, T, lv, Hl, K⟩ | ⟨marks4, markAct6, markEnds8, trayOf10, endMark12, outcomes14, f0, f1, f2, f3, f4, f5, f6, rfl, f8, rfl, rfl, f11, rfl, f13, rfl, f15, rfl, f17, T, lv, Hl, K⟩ | ⟨marks4, markAct6, markEnds8, trayOf10, endMark12, outcomes14, takenMany16, f0, f1, f2, f3, f4, f5, f6, f7, rfl, f9, rfl, rfl, f12, rfl, f14, rfl, f16, rfl, f18, rfl, f20⟩ | ⟨marks4, markAct6, markEnds8, trayOf10, endMark12, outcomes14, takenMany16, g1, g2, rfl, rfl, f0, f1, f2, f3, f4, f5, f6, f7, rfl, f9, rfl, rfl, f12, rfl, f14, rfl, f16, rfl, f18, rfl, f20, T, lv, Hl, K⟩
    · have b := cntB_mono (h := h0) (m := m) (n := (rd 31 16 h0).toNat) (by omega)
      exact ⟨h, K, T, F, by omega, A⟩
    · exact go (by omega) Hl K
    · exact go (by omega) Hl K
    · exact go (by omega) Hl K
    · exact go (by omega) Hl K
    · exfalso
      have := mono (by omega)
      rw [sc, if_pos (by omega)] at this
      omega
    · have hm : (m : Int) < rd 31 16 h0 := by omega
      have mm := mono hm
      rw [sc, if_pos (by omega)] at mm
      have F1 := ((Fq.refl (Ks := [82]) (fs := [60]) h).put 82 (rd 31 60 h) (rd 43 (m : Int) h) rfl).putf 60 (rd 31 60 h + 1) rfl
      have e60 : rd 31 60 (wr 31 60 (rd 31 60 h + 1) (wr 82 (rd 31 60 h) (rd 43 (m : Int) h) h)) = rd 31 60 h + 1 := rd_eq (by omega) (by omega)
      have e82 : ∀ i, 0 ≤ i → rd 82 i (wr 31 60 (rd 31 60 h + 1) (wr 82 (rd 31 60 h) (rd 43 (m : Int) h) h)) = if i = rd 31 60 h then rd 43 (m : Int) h else rd 82 i h := fun i hi => by
        simp (disch := omega) only [rdk, rd_wr]
      obtain ⟨h', u1, u2, u3⟩ := ih (m + 1) lv _ T.1 (by omega) (by omega) (F.trans F1) (by omega) (by rw [sc, if_pos (by omega)]; omega) (by omega) (fun i q1 q2 => by
        rw [e60] at q2
        rw [e82 i q1]
        split
        · rw [e43]
          refine ⟨R.2.2 m (by omega) hm, ?_⟩
          rw [← e43, ← F.k 36 _ rfl]
          assumption
        · exact A i q1 (by omega)) (Hl.fg 3 rfl)
      exact ⟨h', fun d hd => K d _ hd (u1 d hd), T.trans u2, u3⟩
theorem c_take {h : Hp} (hT : TInv h) (I : RI h) {t : Int} (b_t : 0 ≤ t ∧ t ≤ 5) : ∃ h', (∀ d, 3 ≤ d → Ev d 195 (0, fl_enter 4 [rv 31, iv t], [], h, fl_tot) (none, h', fl_tot)) ∧ Nx h h' ∧ TkP h t h' := by
  have bd := BD.of hT
  have R := I.2.2.1
  have l1 : S5 (fun c => rd 51 c h + bOf h c) ≤ 5 * 8 := S5_le fun i q1 q2 => by
    have := bOf_bd h i
    have := bd.2.1 i q1 q2
    have := bd.2.2.1 i q1 q2
    omega
  obtain ⟨g1, rfl, T, lv, Hl, K⟩ := s195 hT b_t (LVs.self (fl_enter 4 [rv 31, iv t]))
  have F := (Fq.refl (Ks := [82]) (fs := [60]) h).putf 60 0 rfl
  have e60 : rd 31 60 (wr 31 60 0 h) = 0 := rd_eq (by decide) (by decide)
  obtain ⟨h', u1, u2, u3⟩ := c_take_l b_t R (by have := R.2.1; omega) 81 0 lv _ T.1 (by omega) (by omega) F (by omega) (by rw [e60]; exact Int.le_refl _) (by have := bd.2.2.2.1; omega) (fun i q1 q2 => by omega) Hl
  exact ⟨h', fun d hd => K d _ hd (u1 d hd), T.trans u2, u3⟩
