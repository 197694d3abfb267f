/-! SEGMENTS: from given values at a place to the arrivals, told in plain terms -/
def pn : List Int → Nat → Int
  | [], _ => 0
  | x :: _, 0 => x
  | _ :: l, i + 1 => pn l i
theorem pn_nm : ∀ (l : List Int) (i : Nat), pn l i = nm l i
  | [], i => by simp [pn, nm]
  | x :: l, 0 => by simp [pn, nm]
  | x :: l, i + 1 => by
    have := pn_nm l i
    simpa [pn, nm] using this
def pv (rho : List Int) (a : AV) : Int := if a.2.1 = 0 then a.2.2 else if a.2.2 = 0 then pn rho a.2.1 else pn rho a.2.1 + a.2.2
theorem pv_xv {rho : List Int} (h0 : rho[0]? = some 0) (a : AV) : pv rho a = xv rho a := by
  unfold pv xv
  split
  · rename_i h
    rw [h, h0]
    simp
  · split
    · rename_i h
      rw [h, pn_nm]
      unfold nm
      omega
    · rw [pn_nm]
      rfl
def iv (z : Int) : Value := .int (Int32.ofInt z)
def rv (K : Nat) : Value := .ref (xc K)
def vl (rho : List Int) (a : AV) : Value := match a.1 with
  | 1 => iv (pv rho a)
  | 2 => rv a.2.2.toNat
  | _ => .null
def lv (rho : List Int) (a : AV) : Option Value := match a.1 with
  | 0 => none
  | _ => some (vl rho a)
def okv (a : AV) : Bool := a.1 == 1 || (a.1 == 2 && decide (31 ≤ a.2.2) && decide (a.2.2 < 93)) || a.1 == 3
/-- locals: none, nothing is known but that it is no long -/
def LVs (vs ls : List (Option Value)) : Prop := vs.length = ls.length ∧ ∀ i : Nat, (vs[i]? = some none → ∀ v, ls[i]? = some (some v) → v.category = 1) ∧ (∀ v, vs[i]? = some (some v) → ls[i]? = some (some v))
theorem LVs.self (l : List (Option Value)) : LVs l l := ⟨rfl, fun i => ⟨fun h v hv => (by rw [h] at hv; cases hv), fun v hv => hv⟩⟩
theorem gv_vl {rho : List Int} (h0 : rho[0]? = some 0) {a : AV} {v : Value} (ho : okv a = true) (h : gv rho a v) : v = vl rho a := by
  unfold okv at ho
  simp only [Bool.or_eq_true, Bool.and_eq_true, beq_iff_eq, decide_eq_true_eq] at ho
  rcases ho with (h1 | h1) | h1
  · obtain ⟨-, y, rfl, e⟩ := xv_int h1 h
    unfold vl
    rw [h1]
    show _ = iv _
    rw [pv_xv h0, ← e]
    unfold iv
    rw [Int32.ofInt_toInt]
  · obtain ⟨r, -, rfl, e⟩ := gv_ref h1.1.1 h
    unfold vl
    rw [h1.1.1]
    show _ = rv _
    unfold rv
    rw [← e, xc_of (by omega) (by omega)]
  · unfold gv at h
    rw [h1] at h
    unfold vl
    rw [h1]
    exact h
theorem gs_vl {rho : List Int} (h0 : rho[0]? = some 0) : ∀ {s : List AV} {vs : List Value}, s.all okv = true → gs rho s vs → vs = s.map (vl rho)
  | [], _, _, h => h
  | a :: s, _, ho, ⟨v, w, e, h2, h3⟩ => by
    subst e
    rw [List.all_cons, Bool.and_eq_true] at ho
    rw [List.map_cons, ← gv_vl h0 ho.1 h2, ← gs_vl h0 ho.2 h3]
theorem gl_LVs {rho : List Int} (h0 : rho[0]? = some 0) {s : List AV} {ls : List (Option Value)} (ho : s.all (fun a => a.1 == 0 || okv a) = true) (h : gl rho s ls) : LVs (s.map (lv rho)) ls := by
  refine ⟨by rw [List.length_map]; exact h.1, fun i => ?_⟩
  rw [List.getElem?_map]
  cases hs : s[i]? with
  | none => exact ⟨fun z => (by cases z), fun v z => by cases z⟩
  | some a =>
    obtain ⟨g1, g2⟩ := h.2 i a hs
    have hoa := List.all_eq_true.mp ho a (List.mem_of_getElem? hs)
    simp only [Bool.or_eq_true, beq_iff_eq] at hoa
    by_cases ha : a.1 = 0
    · refine ⟨fun _ => g1 ha, fun v z => ?_⟩
      simp only [Option.map_some, Option.some.injEq] at z
      unfold lv at z
      rw [ha] at z
      cases z
    · obtain ⟨v, w1, w2⟩ := g2 ha
      have e : lv rho a = some (vl rho a) := by
        unfold lv
        split
        · rename_i z; exact absurd z ha
        · rfl
      have e2 := gv_vl h0 (hoa.resolve_left ha) w2
      rw [Option.map_some, e]
      refine ⟨fun z => (by cases z), fun v' z => ?_⟩
      cases z
      rw [w1, e2]
def ph (rho : List Int) (h : Hp) : List LG → Hp
  | [] => h
  | g :: l => wr g.1 (pv rho g.2.1) (pv rho g.2.2) (ph rho h l)
theorem ph_xh {rho : List Int} (h0 : rho[0]? = some 0) {h : Hp} : ∀ l : List LG, ph rho h l = xh rho h l
  | [] => rfl
  | g :: l => by
    unfold ph xh
    rw [ph_xh h0 l, pv_xv h0, pv_xv h0]
def pf (rho : List Int) (h : Hp) (lg : List LG) (f : FX) : Prop := if f.1 = 9 then pv rho f.2.2.2.1 = rd f.2.1 (pv rho f.2.2.1) (ph rho h (lg.drop (lg.length - f.2.2.2.2))) else if f.1 < 20 then icmp f.1 (pv rho f.2.2.1) (pv rho f.2.2.2.1) else iop f.1 (pv rho f.2.2.1) (pv rho f.2.2.2.1) (pn rho f.2.1)
theorem pf_fok {rho : List Int} (h0 : rho[0]? = some 0) {h : Hp} {lg : List LG} {f : FX} (hf : fok rho h lg f) : pf rho h lg f := by
  unfold pf
  rw [pv_xv h0, pv_xv h0, ph_xh h0, pn_nm]
  exact hf
def FC (rho : List Int) (h : Hp) (lg : List LG) : List FX → Prop
  | [] => True
  | f :: fs => pf rho h lg f ∧ FC rho h lg fs
theorem FC_of {rho : List Int} {h : Hp} {lg : List LG} : ∀ {fx : List FX}, (∀ f ∈ fx, pf rho h lg f) → FC rho h lg fx
  | [], _ => trivial
  | f :: fs, h => ⟨h f List.mem_cons_self, FC_of fun g hg => h g (List.mem_cons_of_mem _ hg)⟩
/-- nothing but cells of the kinds 31 to 92 is written -/
def Rf (h h' : Hp) : Prop := h'.2 = h.2 ∧ ∀ r, ¬ (31 ≤ ab_kd r ∧ ab_kd r < 93) → h'.1 r = h.1 r
def Nx (h h' : Hp) : Prop := TInv h' ∧ Rf h h'
theorem Rf.refl (h : Hp) : Rf h h := ⟨rfl, fun _ _ => rfl⟩
theorem Rf.trans {a b c : Hp} (x : Rf a b) (y : Rf b c) : Rf a c := ⟨y.1.trans x.1, fun r hr => (y.2 r hr).trans (x.2 r hr)⟩
theorem Nx.trans {a b c : Hp} (x : Nx a b) (y : Nx b c) : Nx a c := ⟨y.1, x.2.trans y.2⟩
theorem xc_kd : ((List.range 62).all fun k => decide (ab_kd (xc (31 + k)) = 31 + k)) = true := by decide +kernel
theorem xc_kd' {K : Nat} (h1 : 31 ≤ K) (h2 : K < 93) : ab_kd (xc K) = K := by
  have := of_decide_eq_true (List.all_eq_true.mp xc_kd (K - 31) (List.mem_range.mpr (by omega)))
  rw [show 31 + (K - 31) = K by omega] at this
  exact this
theorem Rf.wr {h h' : Hp} {K : Nat} {i v : Int} (x : Rf h h') (h1 : 31 ≤ K) (h2 : K < 93) : Rf h (wr K i v h') := by
  refine ⟨x.1, fun r hr => ?_⟩
  rw [← x.2 r hr]
  funext j
  show (if r = xc K ∧ j = i.toNat then _ else h'.1 r j) = h'.1 r j
  rw [if_neg]
  rintro ⟨rfl, -⟩
  rw [xc_kd' h1 h2] at hr
  exact hr ⟨h1, h2⟩
def lg_ok (l : List LG) : Bool := l.all fun g => decide (31 ≤ g.1) && decide (g.1 < 93)
theorem ph_rf {rho : List Int} {h : Hp} : ∀ {l : List LG}, lg_ok l = true → Rf h (ph rho h l)
  | [], _ => Rf.refl h
  | g :: l, ho => by
    unfold lg_ok at ho
    rw [List.all_cons, Bool.and_eq_true, Bool.and_eq_true, decide_eq_true_eq, decide_eq_true_eq] at ho
    exact (ph_rf ho.2).wr ho.1.1 ho.1.2
def EB (rho : List Int) (env : List (Int × Int)) : Prop := ∀ (i : Nat) (b : Int × Int), env[i]? = some b → b.1 ≤ b.2 → b.1 ≤ pn rho i ∧ pn rho i ≤ b.2
/-- an arrival in plain terms -/
def AM (rho : List Int) (m pc : Nat) (ls : List (Option Value)) (st : List Value) (h : Hp) (a : AR) : Prop :=
  EB rho a.2.2.1.2.2.1 ∧ FC rho h a.2.2.2.2 a.2.2.2.1 ∧ match a.1 with
    | 0 => Nx h (ph rho h a.2.2.2.2) ∧ ∃ ls', LVs (a.2.2.1.1.map (lv rho)) ls' ∧ ∀ d r, 3 ≤ d → Ev d m (a.2.1.1, ls', a.2.2.1.2.1.map (vl rho), ph rho h a.2.2.2.2, fl_tot) r → Ev d m (pc, ls, st, h, fl_tot) r
    | 1 => Nx h (ph rho h a.2.2.2.2) ∧ ∃ ls', LVs (a.2.2.1.1.map (lv rho)) ls' ∧ ∀ d v h2 r, 2 ≤ d → Ev d a.2.1.1 (0, fl_enter a.2.1.2.1 ((a.2.2.1.2.1.take a.2.1.2.2.1).reverse.map (vl rho)), [], ph rho h a.2.2.2.2, fl_tot) (v, h2, fl_tot) → Ev (d + 1) m (a.2.1.2.2.2, ls', v.toList ++ (a.2.2.1.2.1.drop a.2.1.2.2.1).map (vl rho), h2, fl_tot) r → Ev (d + 1) m (pc, ls, st, h, fl_tot) r
    | 2 => Nx h (ph rho h a.2.2.2.2) ∧ ∀ d, 3 ≤ d → Ev d m (pc, ls, st, h, fl_tot) ((a.2.2.1.2.1.map (vl rho)).head?, ph rho h a.2.2.2.2, fl_tot)
    | _ => True
def sg_okA (a : AR) : Bool := a.1 == 3 || ((lg_ok a.2.2.2.2 && a.2.2.1.2.1.all okv) && (a.1 == 2 || a.2.2.1.1.all (fun x => x.1 == 0 || okv x)))
def sg_okT (t : TY) : Bool := (t.1 == 1 && decide (-2147483648 ≤ t.2.1) && decide (t.2.2 ≤ 2147483647)) || (t.1 == 2 && decide (31 ≤ t.2.1) && decide (t.2.1 < 93)) || t.1 == 0
def dq_AV : DecidableEq AV := inferInstance
def dq_AS : DecidableEq AS := @instDecidableEqProd _ _ (@instDecidableEqList _ dq_AV) (@instDecidableEqProd _ _ (@instDecidableEqList _ dq_AV) (@instDecidableEqProd _ _ inferInstance (@instDecidableEqList _ (@instDecidableEqProd _ _ inferInstance (@instDecidableEqProd _ _ inferInstance (@instDecidableEqProd _ _ inferInstance dq_AV))))))
def dq_FX : DecidableEq FX := @instDecidableEqProd _ _ inferInstance (@instDecidableEqProd _ _ inferInstance (@instDecidableEqProd _ _ dq_AV (@instDecidableEqProd _ _ dq_AV inferInstance)))
def dq_LG : DecidableEq LG := @instDecidableEqProd _ _ inferInstance (@instDecidableEqProd _ _ dq_AV dq_AV)
def dq_XS : DecidableEq XS := @instDecidableEqProd _ _ dq_AS (@instDecidableEqProd _ _ (@instDecidableEqList _ dq_FX) (@instDecidableEqList _ dq_LG))
def dq_AR : DecidableEq AR := @instDecidableEqProd _ _ inferInstance (@instDecidableEqProd _ _ inferInstance dq_XS)
def dq_L : DecidableEq (List AR) := @instDecidableEqList _ dq_AR
def sg_is (o : Option (List AR)) (L : List AR) : Bool := match o with
  | some L' => @decide (L' = L) (dq_L _ _)
  | none => false
theorem sg_is_ok {o : Option (List AR)} {L : List AR} (h : sg_is o L = true) : o = some L := by
  unfold sg_is at h
  split at h
  · rw [@of_decide_eq_true _ (dq_L _ _) h]
  · cases h
def sg_check (P : SP) (m pc : Nat) (tys stys : List TY) (L : List AR) : Bool := sg_is (sg_walk P 3000 3 true m pc (ab_head (tys, stys, []), [], [])) L && L.all sg_okA && tys.all sg_okT && stys.all (fun t => sg_okT t && t.1 != 0)
/-- the values that stand at a start -/
def hv : List TY → List Int → List (Option Value)
  | [], _ => []
  | t :: ts, zs => if t.1 = 1 then some (iv (zs.headD 0)) :: hv ts zs.tail else if t.1 = 2 then some (rv t.2.1.toNat) :: hv ts zs else none :: hv ts zs
def sv : List TY → List Int → List Value
  | [], _ => []
  | t :: ts, zs => if t.1 = 1 then iv (zs.headD 0) :: sv ts zs.tail else rv t.2.1.toNat :: sv ts zs
def hr : List TY → List Int → List Int
  | [], _ => []
  | t :: ts, zs => if t.1 = 1 then zs.headD 0 :: hr ts zs.tail else if t.1 = 2 then (xc t.2.1.toNat : Int) :: hr ts zs else hr ts zs
def HB : List TY → List Int → Prop
  | [], _ => True
  | t :: ts, zs => if t.1 = 1 then (t.2.1 ≤ zs.headD 0 ∧ zs.headD 0 ≤ t.2.2) ∧ HB ts zs.tail else HB ts zs
theorem ofInt_toInt {z : Int} (h1 : -2147483648 ≤ z) (h2 : z ≤ 2147483647) : (Int32.ofInt z).toInt = z := by
  rw [Int32.toInt_ofInt]
  exact i_bm h1 h2
theorem LVs.cons {o : Option Value} {vs ls : List (Option Value)} (h : LVs (o :: vs) ls) : ∃ o' ls', ls = o' :: ls' ∧ LVs vs ls' ∧ (o = none → ∀ v, o' = some v → v.category = 1) ∧ (∀ v, o = some v → o' = some v) := by
  cases ls with
  | nil => cases h.1
  | cons o' ls' =>
    refine ⟨o', ls', rfl, ⟨Nat.succ.inj h.1, fun i => h.2 (i + 1)⟩, ?_, ?_⟩
    · intro z v hv
      exact (h.2 0).1 (by rw [z]; rfl) v (by rw [hv]; rfl)
    · intro v hv
      have := (h.2 0).2 v (by rw [hv]; rfl)
      simpa using this
theorem mk_ex : ∀ (ts : List TY) (zs : List Int) (os : List (Option Value)) (env : List (Int × Int)) (rho : List Int), ts.all sg_okT = true → ga rho env → HB ts zs → LVs (hv ts zs) os → ga (rho ++ hr ts zs) (ab_mk env ts).2 ∧ gl (rho ++ hr ts zs) (ab_mk env ts).1 os
  | [], zs, os, env, rho, _, g, _, hl => by
    have : os = [] := by
      cases os with
      | nil => rfl
      | cons a l => cases hl.1
    subst this
    refine ⟨by unfold hr ab_mk; rw [List.append_nil]; exact g, ?_⟩
    exact ⟨rfl, fun i a h => by simp [ab_mk] at h⟩
  | t :: ts, zs, os, env, rho, ho, g, hb, hl => by
    rw [List.all_cons, Bool.and_eq_true] at ho
    have ht := ho.1
    unfold sg_okT at ht
    simp only [Bool.or_eq_true, Bool.and_eq_true, beq_iff_eq, decide_eq_true_eq] at ht
    unfold HB at hb
    unfold hv at hl
    unfold hr ab_mk
    rcases ht with (ht | ht) | ht
    · rw [if_pos ht.1.1] at hb hl ⊢
      rw [if_pos ht.1.1]
      obtain ⟨o', ls', rfl, h3, -, h5⟩ := hl.cons
      have h6 := h5 _ rfl
      subst h6
      have g1 := ga_push (x := zs.headD 0) (b := (t.2.1, t.2.2)) g (Or.inr hb.1)
      obtain ⟨q1, q2⟩ := mk_ex ts zs.tail ls' _ _ ho.2 g1 hb.2 h3
      rw [List.append_assoc, List.singleton_append] at q1 q2
      refine ⟨q1, gl_cons ⟨fun z => (by cases z), fun _ => ⟨_, rfl, ?_⟩⟩ q2⟩
      have e := ofInt_toInt (z := zs.headD 0) (by omega) (by omega)
      have := gv_ext (t := hr ts zs.tail) (gv_mk (rho := rho ++ [zs.headD 0]) (i := env.length) (o := 0) (y := Int32.ofInt (zs.headD 0)) (by rw [ga_last g, e]; simp))
      rw [List.append_assoc, List.singleton_append] at this
      exact this
    · have hn1 : ¬ t.1 = 1 := by omega
      rw [if_neg hn1, if_pos ht.1.1] at hl ⊢
      rw [if_neg hn1] at hb
      rw [if_neg hn1, if_pos ht.1.1]
      obtain ⟨o', ls', rfl, h3, -, h5⟩ := hl.cons
      have h6 := h5 _ rfl
      subst h6
      have g1 := ga_push (x := (xc t.2.1.toNat : Int)) (b := (1, 0)) g (Or.inl (by decide))
      obtain ⟨q1, q2⟩ := mk_ex ts zs ls' _ _ ho.2 g1 hb h3
      rw [List.append_assoc, List.singleton_append] at q1 q2
      refine ⟨q1, gl_cons ⟨fun z => (by cases z), fun _ => ⟨_, rfl, ?_⟩⟩ q2⟩
      have h7 : gv (rho ++ [(xc t.2.1.toNat : Int)]) (2, env.length, t.2.1) (rv t.2.1.toNat) := ⟨xc t.2.1.toNat, ga_last g, rfl, xc_kd' (by omega) (by omega)⟩
      have := gv_ext (t := hr ts zs) h7
      rw [List.append_assoc, List.singleton_append] at this
      exact this
    · have hn1 : ¬ t.1 = 1 := by omega
      have hn2 : ¬ t.1 = 2 := by omega
      rw [if_neg hn1, if_neg hn2] at hl ⊢
      rw [if_neg hn1] at hb
      rw [if_neg hn1, if_neg hn2, if_neg (by omega), if_neg (by omega)]
      obtain ⟨o', ls', rfl, h3, h4, -⟩ := hl.cons
      obtain ⟨q1, q2⟩ := mk_ex ts zs ls' _ _ ho.2 g hb h3
      exact ⟨q1, gl_cons ⟨fun _ => h4 rfl, fun z => absurd rfl z⟩ q2⟩
theorem hv_sv : ∀ (ts : List TY) (zs : List Int), ts.all (fun t => sg_okT t && t.1 != 0) = true → hv ts zs = (sv ts zs).map some
  | [], _, _ => rfl
  | t :: ts, zs, ho => by
    rw [List.all_cons, Bool.and_eq_true] at ho
    unfold hv sv
    split
    · rw [List.map_cons, hv_sv ts _ ho.2]
    · rename_i h1
      have h2 : t.1 = 2 := by
        have := ho.1
        unfold sg_okT at this
        simp only [Bool.or_eq_true, Bool.and_eq_true, beq_iff_eq, decide_eq_true_eq, bne_iff_ne] at this
        omega
      rw [if_pos h2, List.map_cons, hv_sv ts _ ho.2]
def EX {α : Type} : List α → (α → Prop) → Prop
  | [], _ => False
  | [a], P => P a
  | a :: l, P => P a ∨ EX l P
theorem EX_of {α : Type} {P : α → Prop} : ∀ {l : List α} {a : α}, a ∈ l → P a → EX l P
  | [], _, h, _ => by cases h
  | [b], a, h, hp => by
    obtain rfl := List.mem_singleton.mp h
    exact hp
  | b :: c :: l, a, h, hp => by
    rcases List.mem_cons.mp h with rfl | h
    · exact Or.inl hp
    · exact Or.inr (EX_of h hp)
theorem seg {P : SP} {m pc : Nat} {tys stys : List TY} {L : List AR} (hw : sg_check P m pc tys stys L = true) {zs szs : List Int} {ls : List (Option Value)} {h : Hp} (hT : TInv h) (hb : HB tys zs) (hsb : HB stys szs) (hl : LVs (hv tys zs) ls) : EX L (fun a => ∃ t, AM (0 :: (hr tys zs ++ (hr stys szs ++ t))) m pc ls (sv stys szs) h a) := by
  unfold sg_check at hw
  simp only [Bool.and_eq_true] at hw
  obtain ⟨⟨⟨w1, w2⟩, w3⟩, w4⟩ := hw
  replace w1 := sg_is_ok w1
  have g0 : ga [0] [(0, 0)] := ⟨rfl, fun i b hb => by
    cases i with
    | zero => cases hb; exact ⟨0, rfl, Or.inr ⟨Int.le_refl _, Int.le_refl _⟩⟩
    | succ i => simp at hb⟩
  obtain ⟨a1, a2⟩ := mk_ex tys zs ls [(0, 0)] [0] w3 g0 hb hl
  have w5 : stys.all sg_okT = true := by
    rw [List.all_eq_true] at w4 ⊢
    intro x hx
    have := w4 x hx
    rw [Bool.and_eq_true] at this
    exact this.1
  obtain ⟨b1, b2⟩ := mk_ex stys szs _ (ab_mk [(0, 0)] tys).2 ([0] ++ hr tys zs) w5 a1 hsb (LVs.self _)
  rw [hv_sv _ _ w4] at b2
  have G : Gm ([0] ++ hr tys zs ++ hr stys szs) (ab_head (tys, stys, [])) ls (sv stys szs) h := ⟨b1, gl_ext a2, gs_of_gl b2, fun e he => by cases he⟩
  have X : XM ([0] ++ hr tys zs ++ hr stys szs) h (ab_head (tys, stys, []), [], []) ls (sv stys szs) h := ⟨G, rfl, fun g hg => (by cases hg), fun f hf => by cases hf⟩
  obtain ⟨a, ha, t, ls', st', h', A1, A2, A3⟩ := sg_ok P 3000 3 true m pc _ L _ h _ _ h w1 X hT
  refine EX_of ha ⟨t, ?_⟩
  have er : (0 : Int) :: (hr tys zs ++ (hr stys szs ++ t)) = [0] ++ hr tys zs ++ hr stys szs ++ t := by simp
  rw [er]
  generalize hrho : [0] ++ hr tys zs ++ hr stys szs ++ t = rho at A1 A3
  have h0 : rho[0]? = some 0 := by rw [← hrho]; simp
  have hoa := List.all_eq_true.mp w2 a ha
  unfold sg_okA at hoa
  simp only [Bool.or_eq_true, Bool.and_eq_true, beq_iff_eq] at hoa
  obtain ⟨B1, B2, B3, B4⟩ := A1
  subst B2
  have e1 := ph_xh (rho := rho) h0 (h := h) a.2.2.2.2
  refine ⟨fun i b hb hbb => ?_, FC_of fun f hf => pf_fok h0 (B4 f hf).2.2.2.2, ?_⟩
  · obtain ⟨x, z1, z2⟩ := B1.1.2 i b hb
    have : pn rho i = x := by
      rw [pn_nm]
      unfold nm
      rw [z1]
      rfl
    omega
  · obtain ⟨c, w, x⟩ := a
    rw [e1]
    simp only at hoa B1 A3 ⊢
    match c with
    | 0 =>
      rcases hoa with hoa | ⟨⟨o0, o1⟩, o2 | o2⟩
      · cases hoa
      · cases o2
      · refine ⟨⟨A2, by rw [← e1]; exact ph_rf o0⟩, ls', gl_LVs h0 o2 B1.2.1, fun d r hd ev => A3 d r hd ?_⟩
        rw [gs_vl h0 o1 B1.2.2.1]
        exact ev
    | 1 =>
      rcases hoa with hoa | ⟨⟨o0, o1⟩, o2 | o2⟩
      · cases hoa
      · cases o2
      · obtain ⟨k1, k2, k3⟩ := A3
        refine ⟨⟨A2, by rw [← e1]; exact ph_rf o0⟩, ls', gl_LVs h0 o2 B1.2.1, fun d v h2 r hd e2 e3 => k3 d v h2 r (by omega) ?_ ?_⟩
        · rw [gs_vl h0 o1 B1.2.2.1, ← List.map_take, ← List.map_reverse]
          exact e2
        · rw [gs_vl h0 o1 B1.2.2.1, ← List.map_drop]
          exact e3
    | 2 =>
      rcases hoa with hoa | ⟨⟨o0, o1⟩, -⟩
      · cases hoa
      · refine ⟨⟨A2, by rw [← e1]; exact ph_rf o0⟩, fun d hd => ?_⟩
        have := A3.2 d hd
        rw [gs_vl h0 o1 B1.2.2.1] at this
        exact this
    | n + 3 => trivial
