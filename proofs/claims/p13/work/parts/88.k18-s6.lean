
set_option maxRecDepth 20000
/-! A GIVE OF A SHORT ACT -/
theorem RRM.mon0 {g h hm : Hp} {st c i m : Nat} {Z Z' : Prop} (G : GS g) (R : RRM g h hm st c i st Z) (m4 : m < 4) (v : Int32) (h' : Hp) (eh : h' = h ∨ h' = fl_setI h (8 + 24 * qT g c i) m v) (ev : (fl_setI h (8 + 24 * qT g c i) m v).1 (8 + 24 * qT g c i) m = h'.1 (8 + 24 * qT g c i) m) (bv : -1 ≤ v.toInt ∧ v.toInt ≤ 4) (own : ∀ o : Nat, o < qc g → o ≠ c → hm.1 254 (4 * qT g c i + m) = Int32.ofNat o → v = Int32.ofNat o) (bare : qF g c i = 1 → v = Int32.ofInt (-1)) (pc' : Nat) (hs : ∃ s, h.2 (152 + 12 * c + i) 7 = some s) (z : Z') : RRM g (fl_setI h' (152 + 12 * c + i) 9 (Int32.ofNat pc')) (fl_setI hm 254 (4 * qT g c i + m) v) st c i (st + 1) Z' := by
  obtain ⟨⟨X, M, S15, K, hT⟩, RT, RO, hc, hi, CK, b1, b2, -⟩ := id R
  obtain ⟨s, u5⟩ := hs
  have c5 := G.c5 hc
  have i8 := G.i8 hc hi
  have T6 := G.T6 hc hi
  have low : ∀ r j, ¬ (r = 8 + 24 * qT g c i ∧ j = m) → h'.1 r j = h.1 r j := fun r j hn => by
    rcases eh with rfl | rfl
    · rfl
    · exact setI_no hn
  have low2 : h'.2 = h.2 := by rcases eh with rfl | rfl <;> rfl
  have FX' : KFX c i (qT g c i) h h' := by
    rcases eh with rfl | rfl
    · exact KFX.refl _ _ _ _
    · exact (KFX.refl _ _ _ _).set _ _ _ (by omega)
  obtain ⟨tc, ow1, ow2⟩ := RT _ (G.T hc hi)
  refine RRM.go G (by omega) R (FX'.set _ _ _ (by omega)) ((KFM.refl _ _ _ _).set _ _ _ (by omega)) (hT.a 254 _ (-1) 4 (by decide +kernel) (by decide +kernel) bv) ⟨_, (congrFun (congrFun low2 _) _).trans u5⟩ (fun o j ho hne hj => ?_) ((CK.2.1 i hi).2.of ?_ ?_) (tc.fr (TI.rng hT 69 6 0 40 (by decide +kernel) (by decide) (by decide) T6).2 (by omega) ⟨fun j => ⟨?_, ?_, ?_, ?_⟩, fun K j hK h1 h2 => ?_, fun j h1 h2 => ?_, fun K hK => ?_, fun j h1 h2 => ?_⟩) ⟨fun m' hm' => ?_, fun hF m' hm' => ?_⟩ z
  · by_cases z : j = 4 * qT g c i + m
    · rw [z] at hj ⊢
      rw [setI_at]
      exact own o ho hne hj
    · rw [setI_no (by omega)]
      exact hj
  · rw [setI_no (by omega), low _ _ (by omega)]
  · rw [setI_no (by omega)]
  · rw [setI_no (by omega), low _ _ (by omega)]
  · rw [setI_no (by omega), low _ _ (by omega)]
  · rw [setI_no (by omega), low _ _ (by omega)]
  · rw [setI_no (by omega), low _ _ (by omega)]
  · rw [setI_no (by omega)]
  · rw [setI_no (by omega)]
  · rw [setI_no (by omega)]
  · rw [setI_no (by omega)]
  · rw [setI_no (by omega)]
    by_cases z : m' = m
    · subst z
      rw [← ev, setI_at, setI_at]
    · rw [low _ _ (by omega), setI_no (by omega)]
      exact ow1 m' hm'
  · by_cases z : m' = m
    · subst z
      rw [setI_at]
      exact bare hF
    · rw [setI_no (by omega)]
      exact ow2 hF m' hm'
theorem CUs.mon {g h h' hm : Hp} {c i T : Nat} {v : Int32} (c5 : c < 5) (i8 : i < 8) (T6 : T < 6) (low : ∀ r j, ¬ (r = 8 + 24 * T ∧ j = 0) → h'.1 r j = h.1 r j) (low2 : h'.2 = h.2) (U : CUs g h hm c i 2 3 3) (hl : HLD g (fl_setI hm 254 (4 * T + 0) v) c i 4) : CUs g (fl_setI h' (152 + 12 * c + i) 9 (Int32.ofNat 3)) (fl_setI hm 254 (4 * T + 0) v) c i 3 3 4 := by
  obtain ⟨⟨u1, u2⟩, u3, u4, u5, u6, k5, ⟨u7, u9⟩, u8⟩ := U
  refine ⟨⟨?_, ?_⟩, setI_at, ?_, (congrFun (congrFun low2 _) _).trans u5, ?_, k5, ⟨?_, ?_⟩, hl⟩
  · rw [setI_no (by omega), low _ _ (by omega)]; exact u1
  · rw [setI_no (by omega)]; exact u2
  · rw [setI_no (by omega)]; exact u4
  · rw [setI_no (by omega)]; exact u6
  · rw [setI_no (by omega), low _ _ (by omega), setI_no (by omega)]; exact u7
  · rw [setI_no (by omega), low _ _ (by omega)]; exact u9
theorem go_give_s {g h hm : Hp} {st c i d d2 : Nat} {s : Int32} {r r2 : Option Value × Hp × Nat} (G : GS g) (R : RRM g h hm st c i st (CUs g h hm c i 2 3 3)) (e : Ev d 45 (0, [some (.ref 208), some (.ref (148 + 12 * c)), some (.ref (152 + 12 * c + i)), some (.int s), none], [], h, fl_tot) r) (e2 : Ev d2 158 (113, lsM g c i 3, [], hm, fl_tot) r2) : GO g st c i 3 (lsM g c i 3) (fun h' hm' => CUs g h' hm' c i 3 3 4) d2 r r2 := by
  obtain ⟨⟨X, M, S15, K, hT⟩, RT, RO, hc, hi, CK, b1, b2, U⟩ := id R
  obtain ⟨⟨u1, u2⟩, u3, u4, u5, u6, k5, ⟨u7, u9⟩, u8⟩ := id U
  have c5 := G.c5 hc
  have i8 := G.i8 hc hi
  have T6 := G.T6 hc hi
  have eJ : qJ g c i = 7 ∨ qJ g c i = 8 := by
    unfold qJ stabJ
    rw [k5]
    repeat' split
    all_goals omega
  have hp3 : 3 < stLen (qJ g c i) := by rcases eJ with e | e <;> rw [e] <;> decide +kernel
  have hC : stC (qJ g c i) 3 = 1 := by rcases eJ with e | e <;> rw [e] <;> decide +kernel
  have I := G.inn hc hi hp3
  have eMI : monI (qK g c i) (qO g c i) (qA g c i) c = 0 := by
    unfold monI
    rw [k5]
    repeat' split
    all_goals omega
  have em : qM g c i 3 = 0 := by
    unfold qM stM
    rw [eMI]
    rfl
  have a8 := (CK.2.2.1 i (Nat.le_refl _) hi).1
  rw [eMI] at a8
  obtain ⟨h', w, z⟩ := x_give (J := 9) (M := 0) (p := 2) G X hc hi (by decide) (by decide +kernel) u3 u5 (by decide +kernel) ⟨fun z _ => absurd z (by rw [a8]; decide), fun z _ => absurd z (by rw [a8]; decide), fun _ => by rw [a8]; decide +kernel⟩ e
  have eS : qS g c i 3 = 200 + ((0 : Nat) : Int) := by rw [I.1, hC, em]; rfl
  have ix : (mOf (qT g c i) (qS g c i 3)).toNatClampNeg = 4 * qT g c i + 0 := by rw [eS]; exact (mOf_ix T6 (by omega)).2
  have kS : (Int32.ofInt (qS g c i 3)).toInt = 200 + ((0 : Nat) : Int) := by rw [eS, kc (by omega) (by omega)]
  obtain ⟨tc, ow1, ow2⟩ := RT _ (G.T hc hi)
  have hh := I.2.2.1 hC
  rw [em] at hh
  have Z := z_does_give (h := hm) (c := Int32.ofNat c) (x := Int32.ofNat (8 * c + i)) (st := Int32.ofInt (qS g c i 3)) (m := mOf (qT g c i) (qS g c i 3)) (bare := if qF g c i = 1 then Int32.ofInt 1 else Int32.ofInt 0) M.1 (by rw [kS]; omega) e2
  rw [ix] at Z
  by_cases hF : qF g c i = 1
  · have eh : h' = h := by
      rcases z with z | z
      · exact z.2
      · have := z.1
        rw [ow1 0 (by omega), ow2 hF 0 (by omega), show (Int32.ofInt (-1)).toInt = -1 by decide] at this
        omega
    subst eh
    rw [if_pos hF, i32_1] at Z
    rcases Z with ⟨-, q, -⟩ | ⟨-, -, Z⟩
    · omega
    · refine ⟨_, fl_setI hm 254 (4 * qT g c i + 0) (hm.1 254 (4 * qT g c i + 0)), w, by unfold lsM; rw [if_pos hF]; exact Z, RRM.mon0 G R (m := 0) (by omega) (hm.1 254 (4 * qT g c i + 0)) h' (Or.inl rfl) (by rw [setI_at]; exact (ow1 0 (by omega)).symm) ?_ (fun o ho hne hj => hj) (fun _ => ow2 hF 0 (by omega)) _ ⟨_, u5⟩ (CUs.mon c5 i8 T6 (fun _ _ _ => rfl) rfl U fun y => absurd hF y)⟩
      rw [ow2 hF 0 (by omega)]; decide
  · have own := u8 hF 0 (by omega) hh
    have eh : h' = fl_setI h (8 + 24 * qT g c i) 0 (Int32.ofInt (-1)) := by
      rcases z with z | z
      · have := z.1
        rw [ow1 0 (by omega), own, i32n (by omega)] at this
        exact absurd rfl this
      · exact z.2
    subst eh
    rw [if_neg hF, i32_0] at Z
    rcases Z with ⟨-, -, Z⟩ | ⟨-, q, -⟩
    · refine ⟨_, fl_setI hm 254 (4 * qT g c i + 0) (Int32.ofInt (-1)), w, by unfold lsM; rw [if_neg hF]; exact Z, RRM.mon0 G R (m := 0) (by omega) (Int32.ofInt (-1)) _ (Or.inr rfl) rfl (by decide) (fun o ho hne hj => ?_) (fun y => absurd y hF) _ ⟨_, u5⟩ (CUs.mon c5 i8 T6 (fun r j hn => setI_no hn) rfl U fun _ m' hm' hq => ?_)⟩
      · have o5 := G.c5 ho
        rw [own] at hj
        exact absurd (ofn_inj (by omega) (by omega) hj).symm hne
      · by_cases y : m' = 0
        · rw [show (4 : Nat) = 3 + 1 from rfl, qH_succ, if_neg (by omega), if_pos (by rw [y]; exact eS)] at hq
          cases hq
        · rw [setI_no (by omega)]
          rw [show (4 : Nat) = 3 + 1 from rfl, qH_succ, if_neg (by omega), if_neg (by omega)] at hq
          exact u8 hF m' hm' hq
    · exact absurd rfl q
