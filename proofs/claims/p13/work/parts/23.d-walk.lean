/-! THE OPEN WALK: from a state to stops and ends, the names kept -/
def ab_cat2 (l : List (Option (List (Nat × AS)))) : Option (List (Nat × AS)) := match l with
  | [] => some []
  | none :: _ => none
  | some x :: l => (match ab_cat2 l with
    | some y => some (x ++ y)
    | none => none)
def ab_walk (cts : List CT) (c : CT) (stops : List Nat) (cm : List (Nat × Nat)) (lim : Nat) : Nat → Bool → Nat → AS → Option (List (Nat × AS))
  | 0, _, _, _ => none
  | f + 1, first, pc, s => if first = false ∧ pc ∈ stops then some [(pc, s)] else match fl_code c.1 pc with
      | none => none
      | some q => if 21 ≤ q.1 ∧ q.1 ≤ 24 then some [(pc, s)]
        else if 18 ≤ q.1 ∧ q.1 ≤ 20 then (match cm.lookup pc with
          | some j => if j < lim then (match cts[j]? with
            | some cc => (match ab_call c cc q s with
              | some l => ab_cat2 (l.map (fun e => ab_walk cts c stops cm lim f false e.1 e.2))
              | none => none)
            | none => none) else none
          | none => none)
        else (match ab_step c.2.2.2.2.1 q s with
          | some l => ab_cat2 (l.map (fun e => ab_walk cts c stops cm lim f false e.1 e.2))
          | none => none)
theorem cat2_ok : ∀ {α : Type} {g : α → Option (List (Nat × AS))} {l : List α} {L : List (Nat × AS)}, ab_cat2 (l.map g) = some L → ∀ e ∈ l, ∃ L', g e = some L' ∧ ∀ x ∈ L', x ∈ L
  | _, _, [], _, _, e, he => by cases he
  | _, g, a :: l, L, h, e, he => by
    rw [List.map_cons] at h
    cases hg : g a with
    | none => rw [hg] at h; cases h
    | some x =>
      rw [hg] at h
      unfold ab_cat2 at h
      split at h
      · rename_i y hy
        cases h
        rcases List.mem_cons.mp he with rfl | he
        · exact ⟨x, hg, fun z hz => List.mem_append_left _ hz⟩
        · obtain ⟨L', q1, q2⟩ := cat2_ok hy e he
          exact ⟨L', q1, fun z hz => List.mem_append_right _ (q2 z hz)⟩
      · cases h
/-- from here the machine comes there -/
def Rch (c : CT) (rho : List Int) (h0 : Hp) (pc : Nat) (ls : List (Option Value)) (st : List Value) (h : Hp) (L : List (Nat × AS)) : Prop :=
  ∃ e ∈ L, ∃ (t : List Int) (ls' : List (Option Value)) (st' : List Value) (h' : Hp), Gm (rho ++ t) e.2 ls' st' h' ∧ TInv h' ∧ Fr c.2.2.2.2.1 h0 h' ∧ ∀ r, Ev c.2.1 c.1 (e.1, ls', st', h', fl_tot) r → Ev c.2.1 c.1 (pc, ls, st, h, fl_tot) r
theorem walk_ok {cts : List CT} {c : CT} {stops : List Nat} {cm : List (Nat × Nat)} {lim : Nat} {h0 : Hp} (hcv : ∀ (j : Nat) (cc : CT), j < lim → cts[j]? = some cc → CV cc) :
    ∀ (f : Nat) (first : Bool) (pc : Nat) (s : AS) (L : List (Nat × AS)) (rho : List Int) (ls : List (Option Value)) (st : List Value) (h : Hp), ab_walk cts c stops cm lim f first pc s = some L → Gm rho s ls st h → TInv h → Fr c.2.2.2.2.1 h0 h → Rch c rho h0 pc ls st h L := by
  intro f
  induction f with
  | zero => intro first pc s L rho ls st h hg; cases hg
  | succ f ih =>
    intro first pc s L rho ls st h hg G hT hF
    have here : L = [(pc, s)] → Rch c rho h0 pc ls st h L := fun e => by
      subst e
      exact ⟨_, List.mem_singleton.mpr rfl, [], ls, st, h, by rw [nil_app]; exact G, hT, hF, fun r ev => ev⟩
    unfold ab_walk at hg
    split at hg
    · exact here (Option.some.inj hg).symm
    · cases hc : fl_code c.1 pc with
      | none => rw [hc] at hg; cases hg
      | some q =>
        rw [hc] at hg
        simp only at hg
        by_cases hr : 21 ≤ q.1 ∧ q.1 ≤ 24
        · rw [if_pos hr] at hg
          exact here (Option.some.inj hg).symm
        · rw [if_neg hr] at hg
          by_cases hk : 18 ≤ q.1 ∧ q.1 ≤ 20
          · rw [if_pos hk] at hg
            split at hg
            · rename_i j hj
              split at hg
              · rename_i hjl
                split at hg
                · rename_i cc hcc
                  split at hg
                  · rename_i l hl
                    obtain ⟨as2, rest, y, v, h2, e, s1, s2, s3, s4, s5, s6, ⟨t, G2⟩, T2, F2⟩ := call_ok (pc := pc) hl (hcv j cc hjl hcc) G hT
                    obtain ⟨L', w1, w2⟩ := cat2_ok hg e s6
                    obtain ⟨d, hd⟩ : ∃ d, c.2.1 = d + 1 := ⟨c.2.1 - 1, by omega⟩
                    obtain ⟨e', k1, t', ls', st', h', k2, k3, k4, k5⟩ := ih false e.1 e.2 L' _ ls (v.toList ++ rest) h2 w1 G2 T2 (hF.trans F2)
                    refine ⟨e', w2 _ k1, t ++ t', ls', st', h', by rw [← List.append_assoc]; exact k2, k3, k4, fun r ev => ?_⟩
                    have ev := k5 r ev
                    rw [hd] at ev ⊢
                    exact Ev.call hc s1 s2 s3 (s4.mono (by omega)) ev
                  · cases hg
                · cases hg
              · cases hg
            · cases hg
          · rw [if_neg hk] at hg
            split at hg
            · rename_i l hl
              obtain ⟨c', e, t, s1, s2, s3, s4, s5, s6, s7⟩ := step_all (pc := pc) hl G hT
              obtain ⟨L', w1, w2⟩ := cat2_ok hg e s2
              obtain ⟨pc', ls1, st1, h1, n'⟩ := c'
              simp only at s1 s2 s3 s4 s5 s6 s7
              subst s6
              obtain ⟨e', k1, t', ls', st', h', k2, k3, k4, k5⟩ := ih false e.1 e.2 L' _ ls1 st1 h1 w1 s4 s5 (hF.trans s7)
              refine ⟨e', w2 _ k1, t ++ t', ls', st', h', by rw [← List.append_assoc]; exact k2, k3, k4, fun r ev => ?_⟩
              have ev := k5 r ev
              rw [s3] at ev
              exact Ev.step hc s1 ev
            · cases hg
/-- entering a method: its first state -/
theorem entry_ok {c : CT} {y : sm_M} {as : List Value} {h : Hp} (hk : decide ((ab_loc (ab_entry c y.2.2.1).1).length ≤ y.2.2.1) = true) (ha : aOK c.2.2.1 as) (hpre : ∀ p ∈ c.2.2.2.2.2.1, pOK as h p) :
    (fl_args as).length ≤ y.2.2.1 ∧ ∃ rho, Gm rho (ab_entry c y.2.2.1).2 (fl_enter y.2.2.1 as) [] h ∧ gs rho (ab_entry c y.2.2.1).1 as := by
  have k1 := of_decide_eq_true hk
  have g0 : ga [0] [(0, 0)] := ⟨rfl, fun i b hb => by
    cases i with
    | zero => cases hb; exact ⟨0, rfl, Or.inr ⟨Int.le_refl _, Int.le_refl _⟩⟩
    | succ i => simp at hb⟩
  obtain ⟨t, a1, a2⟩ := mk_ok c.2.2.1 (as.map some) [(0, 0)] [0] g0 (aOK_l ha)
  have a3 := gs_of_gl a2
  obtain ⟨t2, b1, b2⟩ := pre_ok (h := h) a1 a3 hpre
  have e1 : (ab_entry c y.2.2.1).1 = (ab_mk [(0, 0)] c.2.2.1).1 := rfl
  have hl := loc_ok a3
  refine ⟨by rw [← hl.1, ← e1]; exact k1, [0] ++ t ++ t2, ⟨b1, ?_, rfl, b2⟩, by rw [e1]; exact gs_ext a3⟩
  have := pad_ok (gl_ext (t := t2) hl) (y.2.2.1 - (fl_args as).length)
  unfold fl_enter
  show gl _ (ab_loc (ab_mk [(0, 0)] c.2.2.1).1 ++ List.replicate (y.2.2.1 - (ab_loc (ab_mk [(0, 0)] c.2.2.1).1).length) (0, 0, 0)) _
  rw [hl.1]
  exact this
