set_option maxRecDepth 20000
theorem StP.sum {h h' : Hp} {c x st : Int} (hc : 0 ≤ c) (hx : 0 ≤ rd 36 x h) (M : MP h) (hw : rd 53 c h = 0) (hp : 0 ≤ rd 52 c h) (s : StP h c x st h') :
    (∀ i, 0 ≤ i → i ≠ c → rd 52 i h' = rd 52 i h ∧ rd 54 i h' = rd 54 i h ∧ (rd 53 i h' = rd 53 i h ∨ rd 53 i h' = 0)) ∧
    ((rd 53 c h' = 0 ∧ 0 ≤ rd 52 c h') ∨ (rd 52 c h' = -1 ∧ rd 54 c h' = rd 31 15 h + 1)) ∧
    (st ≠ 3 → rd 53 c h' = 0 ∧ rd 52 c h' = rd 52 c h) ∧
    (∀ t, 0 ≤ t → rd 69 t h' ≤ rd 69 t h ∨ (rd 69 t h' ≤ rd 69 t h + 1 ∧ st = 2 ∧ (rd 32 (rd 36 x h) h = 1 ∨ rd 32 (rd 36 x h) h = 2))) ∧
    MP h' ∧ rd 31 42 h ≤ rd 31 42 h' ∧ rd 31 42 h' ≤ rd 31 42 h + 8 := by
  have plain : ∀ {Ks : List Nat} {fs : List Int}, Fq Ks fs h h' → (([52, 53, 54, 69].all (fun K => !Ks.contains K)) && !fs.contains 42) = true → MP h' → (∀ i, 0 ≤ i → i ≠ c → rd 52 i h' = rd 52 i h ∧ rd 54 i h' = rd 54 i h ∧ (rd 53 i h' = rd 53 i h ∨ rd 53 i h' = 0)) ∧ ((rd 53 c h' = 0 ∧ 0 ≤ rd 52 c h') ∨ (rd 52 c h' = -1 ∧ rd 54 c h' = rd 31 15 h + 1)) ∧ (st ≠ 3 → rd 53 c h' = 0 ∧ rd 52 c h' = rd 52 c h) ∧ (∀ t, 0 ≤ t → rd 69 t h' ≤ rd 69 t h ∨ (rd 69 t h' ≤ rd 69 t h + 1 ∧ st = 2 ∧ (rd 32 (rd 36 x h) h = 1 ∨ rd 32 (rd 36 x h) h = 2))) ∧ MP h' ∧ rd 31 42 h ≤ rd 31 42 h' ∧ rd 31 42 h' ≤ rd 31 42 h + 8 := by
    intro Ks fs F hcc M'
    simp only [List.all_cons, List.all_nil, Bool.and_eq_true, Bool.and_true] at hcc
    obtain ⟨⟨c1, c2, c3, c4⟩, c5⟩ := hcc
    have e52 : ∀ i, rd 52 i h' = rd 52 i h := fun i => F.k 52 i (by simpa using c1)
    have e53 : ∀ i, rd 53 i h' = rd 53 i h := fun i => F.k 53 i (by simpa using c2)
    have e54 : ∀ i, rd 54 i h' = rd 54 i h := fun i => F.k 54 i (by simpa using c3)
    have e69 : ∀ i, rd 69 i h' = rd 69 i h := fun i => F.k 69 i (by simpa using c4)
    have e42 : rd 31 42 h' = rd 31 42 h := F.f 42 (by simpa using c5)
    refine ⟨fun i _ _ => ⟨e52 i, e54 i, Or.inl (e53 i)⟩, Or.inl ⟨by rw [e53]; exact hw, by rw [e52]; exact hp⟩, fun _ => ⟨by rw [e53]; exact hw, e52 c⟩, fun t _ => Or.inl (by rw [e69]; omega), M', by omega, by omega⟩
  rcases s with ⟨-, s⟩ | ⟨-, -, s⟩ | ⟨-, s⟩ | ⟨hst, s⟩ | ⟨hst, h1, s, s2, s3⟩ | ⟨-, s, -⟩ | ⟨-, -, -, -, -, s⟩
  · exact plain s.1 rfl (M.fr s.1 rfl)
  · exact plain s.1 rfl (M.fr s.1 rfl)
  · obtain ⟨F, M', l1, l2, -, -⟩ := s
    refine ⟨fun i _ _ => ⟨F.k 52 i rfl, F.k 54 i rfl, Or.inl (F.k 53 i rfl)⟩, Or.inl ⟨by rw [F.k 53 c rfl]; exact hw, by rw [F.k 52 c rfl]; exact hp⟩, fun _ => ⟨by rw [F.k 53 c rfl]; exact hw, F.k 52 c rfl⟩, fun t _ => Or.inl (by rw [F.k 69 t rfl]; omega), M', l1, l2⟩
  · obtain ⟨F, -, -, s⟩ := s
    refine ⟨fun i q1 q2 => ?_, ?_, fun z => absurd hst z, fun t _ => Or.inl (by rw [F.k 69 t rfl]; omega), M.fr F rfl, by rw [F.f 42 rfl]; omega, by rw [F.f 42 rfl]; omega⟩
    · rcases s with s | s | s
      · obtain ⟨-, -, u53, u52, u54, -⟩ := s
        exact ⟨by rw [u52 i q1, if_neg q2], by rw [u54 i q1, if_neg q2], Or.inl (by rw [u53 i q1, if_neg q2])⟩
      · obtain ⟨-, -, u53, u52, u54, -⟩ := s
        exact ⟨by rw [u52 i q1, if_neg q2], u54 i q1, Or.inl (u53 i q1)⟩
      · obtain ⟨-, -, u53, u52, u54, -⟩ := s
        exact ⟨u52 i q1, u54 i q1, Or.inl (u53 i q1)⟩
    · rcases s with s | s | s
      · obtain ⟨-, -, u53, u52, u54, -⟩ := s
        exact Or.inr ⟨by rw [u52 c hc, if_pos rfl], by rw [u54 c hc, if_pos rfl]⟩
      · obtain ⟨-, -, u53, u52, u54, -⟩ := s
        exact Or.inl ⟨by rw [u53 c hc]; exact hw, by rw [u52 c hc, if_pos rfl]; omega⟩
      · obtain ⟨-, -, u53, u52, u54, -⟩ := s
        exact Or.inl ⟨by rw [u53 c hc]; exact hw, by rw [u52 c hc]; exact hp⟩
  · obtain ⟨F, M1, l1, l2, u69, -⟩ := s
    have e52 : ∀ i, rd 52 i h' = rd 52 i h := fun i => (s2.k 52 i rfl).trans (F.k 52 i rfl)
    have e54 : ∀ i, rd 54 i h' = rd 54 i h := fun i => (s2.k 54 i rfl).trans (F.k 54 i rfl)
    have e53 : ∀ i, 0 ≤ i → rd 53 i h' = rd 53 i h ∨ rd 53 i h' = 0 := fun i q => by
      rw [s3 i q]
      split
      · exact Or.inr rfl
      · exact Or.inl rfl
    have c53 : rd 53 c h' = 0 := by
      rcases e53 c hc with z | z
      · omega
      · exact z
    refine ⟨fun i q1 _ => ⟨e52 i, e54 i, e53 i q1⟩, Or.inl ⟨c53, by rw [e52]; exact hp⟩, fun _ => ⟨c53, e52 c⟩, fun t q1 => ?_, M1.fr s2 rfl, by rw [s2.f 42 rfl]; exact l1, by rw [s2.f 42 rfl]; omega⟩
    rw [s2.k 69 t rfl, u69 t q1]
    split
    · rename_i e
      subst e
      unfold manyV
      split
      · rename_i z
        refine Or.inr ⟨by omega, hst, ?_⟩
        omega
      · refine Or.inl ?_
        split
        · split <;> omega
        · omega
    · exact Or.inl (by omega)
  · exact plain s rfl (M.fr s rfl)
  · exact plain s.1 rfl (M.fr s.1 rfl)
theorem RI.tick {h h' : Hp} (V : SV h) (C : RC h) (R : RM h) (Y : RY h) (M : MP h) (s1 : 0 ≤ rd 31 42 h) (s2 : rd 31 42 h ≤ 8 * rd 31 15 h + 8) (t : TickP h h') : RI h' := by
  obtain ⟨F, e⟩ := t
  refine ⟨V.fr F rfl, fun c q1 q2 => ?_, R.fr F rfl, fun t q1 q2 => ?_, M.fr F rfl, by rw [F.f 42 rfl]; exact s1, by rw [F.f 42 rfl, e]; omega⟩
  · rw [F.f 4 rfl] at q2
    exact (C c q1 q2).fr F rfl
  · rw [F.k 69 t rfl]
    have e51 : ∀ i, rd 51 i h' = rd 51 i h := fun i => F.k 51 i rfl
    have ew : ∀ i, wOf h' i = wOf h i := fun i => wOf_fr F rfl (F.k 52 i rfl)
    simp only [e51, ew]
    exact Y t q1 q2
theorem RI.does {h h' : Hp} (hT : TInv h) (I : RI h) {c : Int} (h0 : 0 ≤ c) (hc : c < rd 31 4 h) (hn : rd 51 c h < rd 35 c h) (hst : rd 31 15 h ≤ 599) (D : DoesP h c h') : RI h' ∧ rd 31 15 h' = rd 31 15 h + 1 := by
  obtain ⟨h1, B, D⟩ := D
  obtain ⟨I1, hb1⟩ := I.begin hT h0 hc hn B
  have F1 : Fq [43, 44, 45, 47, 49] [16] h h1 := by
    rcases B with ⟨-, e⟩ | ⟨-, e, -⟩
    · rw [e]; exact Fq.refl h
    · exact e
  have bm1 : 0 ≤ rd 31 16 h1 := by
    have := rdt_ok hT 31 16
    have hh : 0 ≤ rd 31 16 h := (rdt_ok hT 31 16).1
    rcases B with ⟨-, e⟩ | ⟨-, -, -, e, -⟩
    · rw [e]; exact hh
    · omega
  have BD1 := BD.fr F1 rfl (BD.of hT) bm1
  have bd := BD.of hT
  have hc4 : c ≤ 4 := by have := bd.1; omega
  have hnn := bd.2.2.1 c h0 hc4
  have haa := bd.2.1 c h0 hc4
  have hnn1 := BD1.2.2.1 c h0 hc4
  have haa1 := BD1.2.1 c h0 hc4
  have hc1 : c < rd 31 4 h1 := by rw [F1.f 4 rfl]; exact hc
  have hn1 : rd 51 c h1 < rd 35 c h1 := by rw [F1.k 51 c rfl, F1.k 35 c rfl]; exact hn
  have hx1 : 8 * c + rd 51 c h = 8 * c + rd 51 c h1 := by rw [F1.k 51 c rfl]
  have e15 : rd 31 15 h1 = rd 31 15 h := F1.f 15 rfl
  rw [hx1] at D
  obtain ⟨V1, C1, R1, Y1, M1, s1, s2⟩ := I1
  rcases D with ⟨w1, h2, O, T⟩ | ⟨w1, h2, h3, S, N, T⟩
  · obtain ⟨a1, a2, a3, a4, a5, a6, a7⟩ := RI.over BD1 V1 (fun i q1 q2 _ => C1 i q1 q2) R1 (Y1.c c) M1 s1 h0 hc1 hn1 hb1 O
    exact ⟨RI.tick a1 a2 a3 a4 a5 (by omega) (by omega) T, by rw [T.2, a7, e15]⟩
  · have hcc := C1 c h0 hc1
    obtain ⟨p1, p2, p3, p4⟩ := hcc.2.1 hn1
    have btx := rda_ok hT 36 40 0 5 rfl (i := 8 * c + rd 51 c h) (by omega) (by omega)
    have hx36 : 0 ≤ rd 36 (8 * c + rd 51 c h1) h1 := by rw [← hx1, F1.k 36 _ rfl]; exact btx.1
    have F2 := S.fr
    obtain ⟨q1, q2, q3, q4, M2, l1, l2⟩ := S.sum h0 hx36 M1 w1 p1
    obtain ⟨g, G, u52, N⟩ := N
    have FG : Fq stKs [42] h1 g := F2.trans (G.wide rfl rfl)
    have hact := (V1 c (rd 51 c h1) h0 hc1 hnn1.1 hn1).1
    have b_op := BD1.2.2.2.2 (8 * c + rd 51 c h1) (by omega) (by omega)
    have hopp : rd 32 (rd 36 (8 * c + rd 51 c h1) h1) h1 = 1 → 0 ≤ rd 37 (8 * c + rd 51 c h1) h1 ∧ rd 37 (8 * c + rd 51 c h1) h1 ≤ 1 := fun z => ⟨b_op, hact.1 z⟩
    have g52 : rd 52 c g = rd 52 c h2 + 1 := by rw [u52 c h0, if_pos rfl]
    have g53 : rd 53 c g = rd 53 c h2 := G.k 53 c rfl
    have g54 : rd 54 c g = rd 54 c h2 := G.k 54 c rfl
    have Vg := V1.fr FG rfl
    have Rg := R1.fr FG rfl
    have Mg := M2.fr G rfl
    have g42 : rd 31 42 g = rd 31 42 h2 := G.f 42 rfl
    have g15 : rd 31 15 g = rd 31 15 h1 := FG.f 15 rfl
    have g51 : ∀ i, rd 51 i g = rd 51 i h1 := fun i => FG.k 51 i rfl
    have g35 : ∀ i, rd 35 i g = rd 35 i h1 := fun i => FG.k 35 i rfl
    have gb : bOf g c = 1 := by rw [bOf_fr FG rfl]; exact hb1
    have Cg : ∀ i, 0 ≤ i → i < rd 31 4 g → i ≠ c → RC1 g i := fun i w2 w3 w4 => by
      rw [FG.f 4 rfl] at w3
      have hi := C1 i w2 w3
      obtain ⟨r1, r2, r3⟩ := q1 i w2 w4
      have z52 : rd 52 i g = rd 52 i h1 := by rw [u52 i w2, if_neg w4, r1]
      have z54 : rd 54 i g = rd 54 i h1 := by rw [G.k 54 i rfl, r2]
      have z53 : rd 53 i g = rd 53 i h1 ∨ rd 53 i g = 0 := by rw [G.k 53 i rfl]; exact r3
      unfold RC1 at hi ⊢
      rw [g51, g35, z52, z54, stS_fr FG rfl]
      rcases z53 with z | z
      · rw [z]; exact hi
      · rw [z]
        exact ⟨hi.1, fun w => ⟨(hi.2.1 w).1, (hi.2.1 w).2.1, fun q => absurd rfl q, (hi.2.1 w).2.2.2⟩, fun q => absurd rfl q⟩
    have wi : ∀ i, 0 ≤ i → i ≠ c → wOf g i = wOf h1 i := fun i w2 w4 => wOf_fr FG rfl (by rw [u52 i w2, if_neg w4, (q1 i w2 w4).1])
    have bm2 : 0 ≤ rd 31 16 g := by rw [FG.f 16 rfl]; exact bm1
    have BDg := BD.fr FG rfl BD1 bm2
    have hcg : c < rd 31 4 g := by rw [FG.f 4 rfl]; exact hc1
    -- what is added
    have add : ∀ t, 0 ≤ t → rd 69 t g ≤ rd 69 t h1 ∨ (rd 69 t g ≤ rd 69 t h1 + 1 ∧ stS h1 (8 * c + rd 51 c h1) c (rd 52 c h1) = 2 ∧ (rd 32 (rd 36 (8 * c + rd 51 c h1) h1) h1 = 1 ∨ rd 32 (rd 36 (8 * c + rd 51 c h1) h1) h1 = 2)) := fun t w2 => by
      rw [G.k 69 t rfl]
      exact q4 t w2
    -- w of c at h1 is 1: its step gives back, the next one is the end
    have w0 : (stS h1 (8 * c + rd 51 c h1) c (rd 52 c h1) = 2 ∧ (rd 32 (rd 36 (8 * c + rd 51 c h1) h1) h1 = 1 ∨ rd 32 (rd 36 (8 * c + rd 51 c h1) h1) h1 = 2)) → wOf h1 c = 0 := fun z => by
      have hx := stF_w hopp z.2 p1 z.1
      unfold wOf
      rw [if_neg]
      rintro ⟨-, k1, -, k2⟩
      rcases hx with w | w
      · omega
      · exact k2 w.2.1
    have Yc : RYc g c := fun t w2 w3 => by
      have y1 := Y1 t w2 w3
      have e : S5 (fun i => rd 51 i g + if i = c then 1 else wOf g i) = S5 (fun i => rd 51 i h1 + if i = c then 1 else wOf h1 i) := by
        have ee : ∀ i, 0 ≤ i → (rd 51 i g + if i = c then 1 else wOf g i) = rd 51 i h1 + if i = c then 1 else wOf h1 i := fun i w2 => by
          by_cases z : i = c
          · rw [if_pos z, if_pos z, g51]
          · rw [if_neg z, if_neg z, g51, wi i w2 z]
        rw [S5_def, S5_def, ee 0 (by omega), ee 1 (by omega), ee 2 (by omega), ee 3 (by omega), ee 4 (by omega)]
      have up := S5_upd (f := fun i => rd 51 i h1 + wOf h1 i) (g := fun i => rd 51 i h1 + if i = c then 1 else wOf h1 i) (c := c) ⟨h0, hc4⟩ (fun i q => by simp only [if_neg q])
      simp only [if_true] at up
      have hw := wOf_bd h1 c
      rw [e, up]
      rcases add t w2 with z | ⟨z1, z2⟩
      · omega
      · have := w0 z2; omega
    have stn := stF_9 (k := rd 32 (rd 36 (8 * c + rd 51 c h1) h1) h1) (op := rd 37 (8 * c + rd 51 c h1) h1) (a := rd 38 (8 * c + rd 51 c h1) h1) (f := rd 34 (rd 36 (8 * c + rd 51 c h1) h1) h1) (c := c) (i := rd 52 c h2 + 1)
    have es : stS h2 (8 * c + rd 51 c h1) c (rd 52 c h2 + 1) = stS h1 (8 * c + rd 51 c h1) c (rd 52 c h2 + 1) := stS_fr F2 rfl _ _ _
    rw [es] at N
    rcases N with ⟨-, O⟩ | ⟨hno, e⟩
    · rw [← g51 c] at O
      obtain ⟨a1, a2, a3, a4, a5, a6, a7⟩ := RI.over BDg Vg Cg Rg Yc Mg (by omega) h0 hcg (by rw [g51, g35]; exact hn1) gb O
      exact ⟨RI.tick a1 a2 a3 a4 a5 (by omega) (by omega) T, by rw [T.2, a7, g15, e15]⟩
    · have e2 := e.symm
      subst e2
      have f0 := stF_0 (f := rd 34 (rd 36 (8 * c + rd 51 c h1) h1) h1) hopp (fun z => hact.2 (Or.inl z)) (c := c) ⟨h0, hc4⟩
      have Cc : RC1 g c := by
        unfold RC1
        rw [g51, g35, g52, g53, g54, stS_fr FG rfl]
        refine ⟨hcc.1, fun _ => ?_, fun w => ?_⟩
        · rcases q2 with ⟨z1, z2⟩ | ⟨z1, z2⟩
          · have hne : stS h1 (8 * c + rd 51 c h1) c (rd 52 c h2 + 1) ≠ 0 := fun w => hno (Or.inr ⟨z1, w⟩)
            exact ⟨by omega, stn hne, fun w => absurd z1 w, hne⟩
          · rw [z1]
            exact ⟨by omega, by omega, fun _ => by omega, f0⟩
        · rcases q2 with ⟨z1, z2⟩ | ⟨z1, z2⟩
          · exact absurd z1 w
          · have : 0 ≤ rd 31 15 h := (rdt_ok hT 31 15).1
            exact ⟨hn1, by omega, by omega⟩
      refine ⟨RI.tick Vg (fun i w2 w3 => ?_) Rg (fun t w2 w3 => ?_) Mg (by omega) (by omega) T, by rw [T.2, g15, e15]⟩
      · by_cases z : i = c
        · rw [z]; exact Cc
        · exact Cg i w2 w3 z
      · have y1 := Y1 t w2 w3
        have e : S5 (fun i => rd 51 i g + wOf g i) = S5 (fun i => rd 51 i h1 + if i = c then wOf g c else wOf h1 i) := by
          have ee : ∀ i, 0 ≤ i → rd 51 i g + wOf g i = rd 51 i h1 + if i = c then wOf g c else wOf h1 i := fun i w2 => by
            by_cases z : i = c
            · rw [if_pos z, g51, z]
            · rw [if_neg z, g51, wi i w2 z]
          rw [S5_def, S5_def, ee 0 (by omega), ee 1 (by omega), ee 2 (by omega), ee 3 (by omega), ee 4 (by omega)]
        have up := S5_upd (f := fun i => rd 51 i h1 + wOf h1 i) (g := fun i => rd 51 i h1 + if i = c then wOf g c else wOf h1 i) (c := c) ⟨h0, hc4⟩ (fun i q => by simp only [if_neg q])
        simp only [if_true] at up
        have hwg := wOf_bd g c
        have hw1 := wOf_bd h1 c
        -- w of c at h1 must be 0
        have wz : wOf h1 c = 0 := by
          by_cases z : wOf h1 c = 0
          · exact z
          · exfalso
            have hw : rd 51 c h1 < rd 35 c h1 ∧ rd 52 c h1 = 3 ∧ (rd 32 (rd 36 (8 * c + rd 51 c h1) h1) h1 = 1 ∨ rd 32 (rd 36 (8 * c + rd 51 c h1) h1) h1 = 2) ∧ rd 34 (rd 36 (8 * c + rd 51 c h1) h1) h1 ≠ 2 := by
              unfold wOf at z
              by_cases q : rd 51 c h1 < rd 35 c h1 ∧ rd 52 c h1 = 3 ∧ (rd 32 (rd 36 (8 * c + rd 51 c h1) h1) h1 = 1 ∨ rd 32 (rd 36 (8 * c + rd 51 c h1) h1) h1 = 2) ∧ rd 34 (rd 36 (8 * c + rd 51 c h1) h1) h1 ≠ 2
              · exact q
              · rw [if_neg q] at z; exact absurd rfl z
            have f3 := stF_3 (a := rd 38 (8 * c + rd 51 c h1) h1) (c := c) hopp hw.2.2.1 hw.2.2.2
            have st3 : 200 ≤ stS h1 (8 * c + rd 51 c h1) c (rd 52 c h1) := by rw [hw.2.1]; exact f3.1
            obtain ⟨k1, k2⟩ := q3 (by omega)
            apply hno
            refine Or.inr ⟨k1, ?_⟩
            rw [k2, hw.2.1]
            exact f3.2
        rw [e, up]
        rcases add t w2 with z | ⟨z1, z2, z3⟩
        · omega
        · have hx := stF_w hopp z3 p1 z2
          obtain ⟨k1, k2⟩ := q3 (by omega)
          have wg : wOf g c = 1 := by
            unfold wOf
            rw [g51, g35, g52, k2, FG.k 36 _ rfl, FG.k 32 _ rfl, FG.k 34 _ rfl, if_pos]
            rcases hx with w | w
            · exact ⟨hn1, by omega, z3, w.2⟩
            · exfalso
              apply hno
              refine Or.inr ⟨k1, ?_⟩
              rw [k2, w.1]
              exact w.2.2
          omega
