/-! THE WALK IS RIGHT, and so is the check of a contract -/
theorem Gd.to {c : CT} {as : List Value} {h0 : Hp} {pc : Nat} {ls : List (Option Value)} {st : List Value} {h : Hp} {pc' : Nat} {ls' : List (Option Value)} {st' : List Value} {h' : Hp} (hE : ∀ r, Ev c.2.1 c.1 (pc', ls', st', h', fl_tot) r → Ev c.2.1 c.1 (pc, ls, st, h, fl_tot) r) (g : Gd c as h0 pc' ls' st' h') : Gd c as h0 pc ls st h := by
  obtain ⟨v, h2, ev, x⟩ := g
  exact ⟨v, h2, hE _ ev, x⟩
theorem go_ok {cts : List CT} {c : CT} {hds : List (Nat × HD)} {cm : List (Nat × Nat)} {lim : Nat} {m0 : Option (List (Nat × AV × Int))} {avs : List AV} {as : List Value} {h0 : Hp} {Y : List Int}
    (hcv : ∀ (j : Nat) (cc : CT), j < lim → cts[j]? = some cc → CV cc)
    (hHd : ∀ (pc : Nat) (hd : HD), hds.lookup pc = some hd → ∀ (rho : List Int) (ls : List (Option Value)) (st : List Value) (h : Hp), Gm rho (ab_head hd) ls st h → TInv h → Fr c.2.2.2.2.1 h0 h → (m0 = none ∨ (lexlt (hd.2.2.map (cme ls)) Y ∧ hd.2.2.length = Y.length)) → Gd c as h0 pc ls st h) :
    ∀ (f : Nat) (first : Bool) (pc : Nat) (s : AS) (rho : List Int) (ls : List (Option Value)) (st : List Value) (h : Hp), ab_go cts c hds cm lim m0 avs f first pc s = true → Gm rho s ls st h → TInv h → Fr c.2.2.2.2.1 h0 h → (∀ m, m0 = some m → (∀ y ∈ m, vld rho y) ∧ Y = m.map (mvv rho)) → (m0 = none → gs rho avs as) → Gd c as h0 pc ls st h := by
  intro f
  induction f with
  | zero => intro first pc s rho ls st h hg; cases hg
  | succ f ih =>
    intro first pc s rho ls st h hg G hT hF hm ha
    unfold ab_go at hg
    generalize hlk : (if first = true then none else hds.lookup pc) = lk at hg
    cases lk with
    | some hd =>
      simp only [Bool.and_eq_true] at hg
      obtain ⟨⟨q1, q2⟩, q3⟩ := hg
      have hlk' : hds.lookup pc = some hd := by
        cases first
        · exact hlk
        · cases hlk
      obtain ⟨rho', G'⟩ := head_ok G q1 q2
      refine hHd pc hd hlk' rho' ls st h G' hT hF ?_
      cases hm0 : m0 with
      | none => exact Or.inl rfl
      | some m =>
        right
        obtain ⟨-, e⟩ := hm m hm0
        rw [hm0] at q3
        simp only [Bool.and_eq_true, decide_eq_true_eq] at q3
        rw [e]
        exact ⟨lt_ok G.1 G.2.1 q3.1, by rw [List.length_map]; exact q3.2⟩
    | none =>
      simp only at hg
      cases hc : fl_code c.1 pc with
      | none => rw [hc] at hg; cases hg
      | some q =>
        rw [hc] at hg
        simp only at hg
        have hext : ∀ t : List Int, (∀ m, m0 = some m → (∀ y ∈ m, vld (rho ++ t) y) ∧ Y = m.map (mvv (rho ++ t))) := by
          intro t m e
          obtain ⟨a1, a2⟩ := hm m e
          exact ⟨fun y hy => (vld_ext (a1 y hy)).1, by rw [a2]; exact List.map_congr_left fun y hy => (vld_ext (a1 y hy)).2.symm⟩
        by_cases hr : 21 ≤ q.1 ∧ q.1 ≤ 24
        · rw [if_pos hr] at hg
          split at hg
          · rename_i hn
            refine ret_ok hg hc G hT hF ?_
            rw [Bool.or_eq_true] at hn
            rcases hn with hn | hn
            · right
              cases m0 with
              | none => exact gs_get (ha rfl)
              | some m => cases hn
            · exact Or.inl (List.isEmpty_iff.mp hn)
          · cases hg
        · rw [if_neg hr] at hg
          by_cases hk : 18 ≤ q.1 ∧ q.1 ≤ 20
          · rw [if_pos hk] at hg
            split at hg
            · rename_i j hj
              split at hg
              · rename_i hjl
                split at hg
                · rename_i cc hcc
                  split at hg
                  · rename_i l hl
                    obtain ⟨as2, rest, y, v, h2, e, s1, s2, s3, s4, s5, s6, ⟨t, G2⟩, T2, F2⟩ := call_ok (pc := pc) hl (hcv j cc hjl hcc) G hT
                    have hgo := List.all_eq_true.mp hg e s6
                    obtain ⟨d, hd⟩ : ∃ d, c.2.1 = d + 1 := ⟨c.2.1 - 1, by omega⟩
                    refine Gd.to (fun r ev => ?_) (ih false e.1 e.2 _ ls (v.toList ++ rest) h2 hgo G2 T2 (hF.trans F2) (hext t) (fun z => gs_ext (ha z)))
                    rw [hd] at ev ⊢
                    exact Ev.call hc s1 s2 s3 (s4.mono (by omega)) ev
                  · cases hg
                · cases hg
              · cases hg
            · cases hg
          · rw [if_neg hk] at hg
            split at hg
            · rename_i l hl
              obtain ⟨c', e, t, s1, s2, s3, s4, s5, s6, s7⟩ := step_all (pc := pc) hl G hT
              have hgo := List.all_eq_true.mp hg e s2
              obtain ⟨pc', ls', st', h', n'⟩ := c'
              simp only at s1 s2 s3 s4 s5 s6 s7
              subst s6
              refine Gd.to (fun r ev => ?_) (ih false e.1 e.2 _ ls' st' h' hgo s4 s5 (hF.trans s7) (hext t) (fun z => gs_ext (ha z)))
              rw [s3] at ev
              exact Ev.step hc s1 ev
            · cases hg
theorem lk_mem2 {hd : HD} {pc : Nat} : ∀ {hds : List (Nat × HD)}, hds.lookup pc = some hd → (pc, hd) ∈ hds
  | [], h => by cases h
  | (k, x) :: l, h => by
    rw [List.lookup_cons] at h
    split at h
    · rename_i e
      cases h
      rw [beq_iff_eq] at e
      subst e
      exact List.mem_cons_self
    · exact List.mem_cons_of_mem _ (lk_mem2 h)
theorem loc_ok {rho : List Int} : ∀ {avs : List AV} {as : List Value}, gs rho avs as → gl rho (ab_loc avs) (fl_args as)
  | [], _, h => by
    have : _ = [] := h
    subst this
    exact ⟨rfl, fun i a hi => by simp [ab_loc] at hi⟩
  | a :: l, _, ⟨v, w, e, h2, h3⟩ => by
    subst e
    have ih := loc_ok h3
    unfold ab_loc fl_args
    by_cases h5 : a.1 = 5
    · obtain ⟨x, rfl⟩ := gv_long h5 h2
      rw [if_pos h5, if_pos (show (Value.long x).category = 2 from rfl)]
      exact gl_cons ⟨fun z => by omega, fun _ => ⟨_, rfl, h2⟩⟩ (gl_cons ⟨fun _ v hv => (by cases hv), fun z => absurd rfl z⟩ ih)
    · have hc : v.category = 1 := by
        unfold gv at h2
        split at h2
        · obtain ⟨_, _, _, rfl, _⟩ := h2; rfl
        · obtain ⟨_, _, rfl, _⟩ := h2; rfl
        · subst h2; rfl
        · obtain ⟨_, _, q⟩ := h2
          rcases q with ⟨_, rfl⟩ | ⟨_, _, rfl, _⟩ <;> rfl
        · rename_i h5'; exact absurd h5' h5
        · exact h2
      rw [if_neg h5, if_neg (by omega)]
      exact gl_cons ⟨fun _ u hu => by cases hu; exact hc, fun _ => ⟨_, rfl, h2⟩⟩ ih
theorem pad_ok {rho : List Int} {l : List AV} {os : List (Option Value)} (h : gl rho l os) (n : Nat) : gl rho (l ++ List.replicate n (0, 0, 0)) (os ++ List.replicate n none) := by
  refine ⟨by simp [h.1], fun i a hi => ?_⟩
  by_cases hlt : i < l.length
  · rw [List.getElem?_append_left hlt] at hi
    rw [List.getElem?_append_left (by rw [← h.1]; exact hlt)]
    exact h.2 i a hi
  · rw [List.getElem?_append_right (by omega)] at hi
    rw [List.getElem?_append_right (by rw [← h.1]; omega)]
    obtain ⟨hi1, hi2⟩ := List.getElem?_eq_some_iff.mp hi
    rw [List.getElem_replicate] at hi2
    subst hi2
    refine ⟨fun _ v hv => ?_, fun z => absurd rfl z⟩
    obtain ⟨hv1, hv2⟩ := List.getElem?_eq_some_iff.mp hv
    rw [List.getElem_replicate] at hv2
    cases hv2
theorem pre_ok {as : List Value} {h : Hp} {avs : List AV} : ∀ {ps : List (Nat × Nat × Int × Int)} {rho : List Int} {env : List (Int × Int)}, ga rho env → gs rho avs as → (∀ p ∈ ps, pOK as h p) → ∃ t, ga (rho ++ t) (ab_pre avs env ps).2 ∧ gc (rho ++ t) h (ab_pre avs env ps).1
  | [], rho, env, g, _, _ => ⟨[], by rw [nil_app]; exact g, fun e he => by cases he⟩
  | p :: ps, rho, env, g, ha, hp => by
    have hp' : ∀ p ∈ ps, pOK as h p := fun z hz => hp z (List.mem_cons_of_mem _ hz)
    unfold ab_pre
    split
    · rename_i a hav
      split
      · rename_i h2
        obtain ⟨v, e1, e2⟩ := gs_get ha _ _ hav
        obtain ⟨r, e3, b1, b2⟩ := hp p List.mem_cons_self
        cases e1.symm.trans e3
        obtain ⟨r', z1, e4, z2⟩ := gv_ref h2.1 e2
        cases e4
        have hio := h2.2
        unfold ab_io at hio
        simp only [Bool.and_eq_true, decide_eq_true_eq] at hio
        obtain ⟨k1, k2⟩ := hio
        split at k2
        · rename_i code size tys hK
          obtain ⟨-, hl⟩ := ab_kdK (by rw [z2]; exact k1) (by rw [z2]; exact hK)
          obtain ⟨t, q1, q2⟩ := pre_ok (ps := ps) (ga_push (x := (h.1 r p.2.1).toInt) g (Or.inr ⟨b1, b2⟩)) (gs_ext ha) hp'
          refine ⟨[(h.1 r p.2.1).toInt] ++ t, by rw [← List.append_assoc]; exact q1, fun e he => ?_⟩
          rw [← List.append_assoc]
          rcases List.mem_cons.mp he with rfl | he
          · exact ⟨r, get_ext (get_ext z1), z2, by rw [hl]; exact of_decide_eq_true k2, gv_ext (gv_mk (by rw [ga_last g]; simp))⟩
          · exact q2 e he
        · cases k2
      · exact pre_ok g ha hp'
    · exact pre_ok g ha hp'
theorem chk_ok {cts : List CT} {i : Nat} {hds : List (Nat × HD)} {cm : List (Nat × Nat)} {fuel : Nat} {c : CT} (hi : cts[i]? = some c) (hcv : ∀ (j : Nat) (cc : CT), j < i → cts[j]? = some cc → CV cc) (hk : ab_chk cts i hds cm fuel = true) : CV c := by
  unfold ab_chk at hk
  rw [hi] at hk
  simp only at hk
  cases hy : sm_ms[c.1]? with
  | none => rw [hy] at hk; cases hk
  | some y =>
    rw [hy] at hk
    simp only [Bool.and_eq_true, decide_eq_true_eq, List.all_eq_true, beq_iff_eq] at hk
    obtain ⟨⟨k1, k2⟩, k3⟩ := hk
    intro as h hT haok hpre
    have heads : ∀ (N pc : Nat) (hd : HD), hds.lookup pc = some hd → ∀ (rho : List Int) (ls : List (Option Value)) (st : List Value) (h' : Hp), Gm rho (ab_head hd) ls st h' → TInv h' → Fr c.2.2.2.2.1 h h' → num (hd.2.2.map (cme ls)) < N → Gd c as h pc ls st h' := by
      intro N
      induction N with
      | zero => intro pc hd _ rho ls st h' _ _ _ hn; omega
      | succ N ih =>
        intro pc hd hlk rho ls st h' G T F hn
        obtain ⟨⟨-, m1⟩, m2⟩ := k3 _ (lk_mem2 hlk)
        obtain ⟨r1, r2, r3⟩ := mr_ok G.1 G.2.1 m1
        refine go_ok (Y := hd.2.2.map (cme ls)) hcv (fun pc' hd' hlk' rho' ls' st' h2 G' T' F' hlex => ?_) fuel true pc _ rho ls st h' m2 G T F (fun m e => by cases e; exact ⟨r2, r3⟩) (fun z => by cases z)
        rcases hlex with z | ⟨z1, z2⟩
        · cases z
        · obtain ⟨⟨-, n1⟩, -⟩ := k3 _ (lk_mem2 hlk')
          have n2 := (mr_ok G'.1 G'.2.1 n1).1
          have := num_lt z1 (by rw [List.length_map]; exact z2) n2 r1
          exact ih pc' hd' hlk' rho' ls' st' h2 G' T' F' (by omega)
    have g0 : ga [0] [(0, 0)] := ⟨rfl, fun i b hb => by
      cases i with
      | zero => cases hb; exact ⟨0, rfl, Or.inr ⟨Int.le_refl _, Int.le_refl _⟩⟩
      | succ i => simp at hb⟩
    obtain ⟨t, a1, a2⟩ := mk_ok c.2.2.1 (as.map some) [(0, 0)] [0] g0 (aOK_l haok)
    have a3 := gs_of_gl a2
    obtain ⟨t2, b1, b2⟩ := pre_ok (h := h) a1 a3 hpre
    have e1 : (ab_entry c y.2.2.1).1 = (ab_mk [(0, 0)] c.2.2.1).1 := rfl
    have hl := loc_ok a3
    have hlen : (fl_args as).length ≤ y.2.2.1 := by rw [← hl.1, ← e1]; exact k1
    refine ⟨y, hy, hlen, ?_⟩
    have hG : Gm ([0] ++ t ++ t2) (ab_entry c y.2.2.1).2 (fl_enter y.2.2.1 as) [] h := by
      refine ⟨b1, ?_, rfl, b2⟩
      have := pad_ok (gl_ext (t := t2) hl) (y.2.2.1 - (fl_args as).length)
      unfold fl_enter
      show gl _ (ab_loc (ab_mk [(0, 0)] c.2.2.1).1 ++ List.replicate (y.2.2.1 - (ab_loc (ab_mk [(0, 0)] c.2.2.1).1).length) (0, 0, 0)) _
      rw [hl.1]
      exact this
    exact go_ok (Y := []) hcv (fun pc' hd' hlk' rho' ls' st' h2 G' T' F' _ => heads _ pc' hd' hlk' rho' ls' st' h2 G' T' F' (Nat.lt_succ_self _)) fuel false 0 _ _ _ _ h k2 hG hT Fr.rfl' (fun m e => by cases e) (fun _ => by rw [e1]; exact gs_ext a3)
