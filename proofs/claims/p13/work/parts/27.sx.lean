/-! WALKS THAT TELL WHAT THEY READ, WHERE THEY TURNED, WHAT THEY WROTE (for kinds of one cell each) -/
/-- a fact: (o, 0, A, B, 0): A and B compare so; (9, K, I, A, n): A was read at I of K when n writes were made -/
abbrev FX : Type := Nat × Nat × AV × AV × Nat
/-- a write: kind, index, value; the newest first -/
abbrev LG : Type := Nat × AV × AV
abbrev XS : Type := AS × List FX × List LG
def xc (K : Nat) : Nat := ab_kl.idxOf K
theorem xc_all : ((List.range 1000).all fun r => decide (ab_kd r < 31) || decide (93 ≤ ab_kd r) || decide (xc (ab_kd r) = r)) = true := by decide +kernel
theorem xc_of {r : Nat} (h1 : 31 ≤ ab_kd r) (h2 : ab_kd r < 93) : xc (ab_kd r) = r := by
  by_cases hr : r < 1000
  · have := List.all_eq_true.mp xc_all r (List.mem_range.mpr hr)
    simp only [Bool.or_eq_true, decide_eq_true_eq] at this
    omega
  · exfalso
    unfold ab_kd at h1 h2
    rw [if_neg hr] at h1 h2
    split at h1
    · omega
    · rename_i h9
      rw [if_neg h9] at h2
      omega
def nm (rho : List Int) (i : Nat) : Int := (rho[i]?).getD 0
def xv (rho : List Int) (a : AV) : Int := (rho[a.2.1]?).getD 0 + a.2.2
def rd (K : Nat) (i : Int) (h : Hp) : Int := (h.1 (xc K) i.toNat).toInt
def wr (K : Nat) (i v : Int) (h : Hp) : Hp := fl_setI h (xc K) i.toNat (Int32.ofInt v)
def xok (rho : List Int) (a : AV) : Prop := ∃ x, rho[a.2.1]? = some x
def xh (rho : List Int) (h : Hp) : List LG → Hp
  | [] => h
  | g :: l => wr g.1 (xv rho g.2.1) (xv rho g.2.2) (xh rho h l)
def icmp (o : Nat) (x y : Int) : Prop := match o with
  | 0 => x = y
  | 1 => x ≠ y
  | 2 => x < y
  | 3 => y ≤ x
  | 4 => y < x
  | 5 => x ≤ y
  | _ => True
def iop (o : Nat) (x y z : Int) : Prop := match o with
  | 20 => z = x + y
  | 21 => z = x - y
  | 22 => z = x * y
  | 23 => z = x / y
  | 24 => z = x % y
  | _ => True
/-- (20 and more, N, A, B, 0): name N is A (op) B -/
def fok (rho : List Int) (h : Hp) (lg : List LG) (f : FX) : Prop := if f.1 = 9 then xv rho f.2.2.2.1 = rd f.2.1 (xv rho f.2.2.1) (xh rho h (lg.drop (lg.length - f.2.2.2.2))) else if f.1 < 20 then icmp f.1 (xv rho f.2.2.1) (xv rho f.2.2.2.1) else iop f.1 (xv rho f.2.2.1) (xv rho f.2.2.2.1) (nm rho f.2.1)
def lgOK (rho : List Int) (lg : List LG) : Prop := ∀ g ∈ lg, xok rho g.2.1 ∧ xok rho g.2.2
def fxOK (rho : List Int) (h : Hp) (fx : List FX) (lg : List LG) : Prop := ∀ f ∈ fx, xok rho f.2.2.1 ∧ xok rho f.2.2.2.1 ∧ f.2.2.2.2 ≤ lg.length ∧ (f.1 < 20 ∨ xok rho (1, f.2.1, 0)) ∧ fok rho h lg f
def XM (rho : List Int) (h0 : Hp) (x : XS) (ls : List (Option Value)) (st : List Value) (h : Hp) : Prop := Gm rho x.1 ls st h ∧ h = xh rho h0 x.2.2 ∧ lgOK rho x.2.2 ∧ fxOK rho h0 x.2.1 x.2.2
theorem xv_ext {rho t : List Int} {a : AV} (h : xok rho a) : xv (rho ++ t) a = xv rho a := by
  obtain ⟨x, h⟩ := h
  unfold xv
  rw [get_ext h, h]
theorem xok_ext {rho t : List Int} {a : AV} (h : xok rho a) : xok (rho ++ t) a := by
  obtain ⟨x, h⟩ := h
  exact ⟨x, get_ext h⟩
theorem xh_ext {rho t : List Int} {h : Hp} : ∀ {lg : List LG}, lgOK rho lg → xh (rho ++ t) h lg = xh rho h lg
  | [], _ => rfl
  | g :: l, ho => by
    unfold xh
    rw [xh_ext (fun z hz => ho z (List.mem_cons_of_mem _ hz)), xv_ext (ho g List.mem_cons_self).1, xv_ext (ho g List.mem_cons_self).2]
theorem lgOK.ext {rho t : List Int} {lg : List LG} (h : lgOK rho lg) : lgOK (rho ++ t) lg := fun g hg => ⟨xok_ext (h g hg).1, xok_ext (h g hg).2⟩
theorem lgOK.drop {rho : List Int} {lg : List LG} (h : lgOK rho lg) (n : Nat) : lgOK rho (lg.drop n) := fun g hg => h g (List.mem_of_mem_drop hg)
theorem nm_ext {rho t : List Int} {i : Nat} (h : xok rho (1, i, 0)) : nm (rho ++ t) i = nm rho i := by
  obtain ⟨x, h⟩ := h
  unfold nm
  rw [get_ext h, h]
theorem fxOK.ext {rho t : List Int} {h : Hp} {fx : List FX} {lg : List LG} (hl : lgOK rho lg) (hf : fxOK rho h fx lg) : fxOK (rho ++ t) h fx lg := fun f hm => by
  obtain ⟨a, b, c, k, d⟩ := hf f hm
  refine ⟨xok_ext a, xok_ext b, c, k.imp id xok_ext, ?_⟩
  unfold fok at d ⊢
  rw [xv_ext a, xv_ext b, xh_ext (hl.drop _)]
  rcases k with k | k
  · split
    · rename_i z; rw [if_pos z] at d; exact d
    · rename_i z; rw [if_neg z, if_pos k] at d; first | exact d | (rw [if_pos k]; exact d)
  · rw [nm_ext k]; exact d
theorem fxOK.push {rho : List Int} {h : Hp} {fx : List FX} {lg : List LG} (hf : fxOK rho h fx lg) (g : LG) : fxOK rho h fx (g :: lg) := fun f hm => by
  obtain ⟨a, b, c, k, d⟩ := hf f hm
  refine ⟨a, b, Nat.le_succ_of_le c, k, ?_⟩
  unfold fok at d ⊢
  rw [List.length_cons, show lg.length + 1 - f.2.2.2.2 = (lg.length - f.2.2.2.2) + 1 by omega, List.drop_succ_cons]
  exact d
theorem fxOK.app {rho : List Int} {h : Hp} {fx fy : List FX} {lg : List LG} (h1 : fxOK rho h fx lg) (h2 : fxOK rho h fy lg) : fxOK rho h (fx ++ fy) lg := fun f hm => by
  rcases List.mem_append.mp hm with z | z
  · exact h1 f z
  · exact h2 f z
/-- an int of the checker, as xv gives it -/
theorem xv_int {rho : List Int} {a : AV} {v : Value} (h1 : a.1 = 1) (h : gv rho a v) : xok rho a ∧ ∃ y : Int32, v = .int y ∧ y.toInt = xv rho a := by
  obtain ⟨x, y, z1, z2, z3⟩ := gv_int h1 h
  refine ⟨⟨x, z1⟩, y, z2, ?_⟩
  unfold xv
  rw [z1, z3]
  rfl
theorem call_inr {b : Bool} {i m k nx : Nat} {ls : List (Option Value)} {st : List Value} {h : Hp} {n : Nat} {o : Out} (hs : fl_call b i m k nx ls st h n = some o) : ∃ x, o = .inr x := by
  unfold fl_call at hs
  simp only at hs
  (repeat' split at hs) <;> first | (cases hs; done) | (cases hs; exact ⟨_, rfl⟩)
/-- a step that writes no slot leaves the heap -/
theorem step_heap {q : Smi} {pc : Nat} {ls : List (Option Value)} {st : List Value} {h : Hp} {n : Nat} {c' : Cfg} (hs : fl_step q (pc, ls, st, h, n) = some (.inl c')) (hq : q.1 ≠ 10 ∧ q.1 ≠ 12 ∧ q.1 ≠ 14 ∧ q.1 ≠ 16 ∧ q.1 ≠ 29 ∧ q.1 ≠ 30 ∧ q.1 ≠ 31 ∧ q.1 ≠ 41) : c'.2.2.2.1 = h := by
  obtain ⟨op, a, nx⟩ := q
  obtain ⟨q1, q2, q3, q4, q5, q6, q7, q8⟩ := hq
  simp only at q1 q2 q3 q4 q5 q6 q7 q8
  unfold fl_step at hs
  simp only at hs
  have hcall : ∀ (b : Bool) (i m k : Nat), fl_call b i m k nx ls st h n = some (.inl c') → c'.2.2.2.1 = h := fun b i m k hk => by
    obtain ⟨x, hx⟩ := call_inr hk
    cases hx
  split at hs <;> first | (exact absurd rfl q1) | (exact absurd rfl q2) | (exact absurd rfl q3) | (exact absurd rfl q4) | (exact absurd rfl q5) | (exact absurd rfl q6) | (exact absurd rfl q7) | (exact absurd rfl q8) | (split at hs <;> first | exact hcall _ _ _ _ hs | (cases hs; done)) | ((repeat' split at hs) <;> first | (cases hs; done) | (cases hs; rfl))
