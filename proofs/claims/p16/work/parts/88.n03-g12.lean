
set_option maxRecDepth 20000
/-! LISTS OF KEYS -/
def nthL : List Nat → Nat → Option Nat
  | [], _ => none
  | a :: _, 0 => some a
  | _ :: l, n + 1 => nthL l n
theorem nthL_app : ∀ (l L : List Nat) (n : Nat), nthL (l ++ L) n = if n < l.length then nthL l n else nthL L (n - l.length)
  | [], L, n => by rw [List.length_nil, if_neg (Nat.not_lt_zero n)]; rfl
  | a :: l, L, 0 => by rw [if_pos (by rw [List.length_cons]; omega)]; rfl
  | a :: l, L, n + 1 => by
    rw [List.length_cons]
    have e : n + 1 - (l.length + 1) = n - l.length := by omega
    rw [e]
    show nthL (l ++ L) n = if n + 1 < l.length + 1 then nthL l n else nthL L (n - l.length)
    rw [nthL_app l L n]
    by_cases z : n < l.length
    · rw [if_pos z, if_pos (by omega)]
    · rw [if_neg z, if_neg (by omega)]
theorem nthL_lo {l L : List Nat} {n q : Nat} (e : nthL l n = some q) (z : n < l.length) : nthL (l ++ L) n = some q := by rw [nthL_app, if_pos z]; exact e
theorem nthL_hi {l L : List Nat} {n q : Nat} (e : nthL L (n - l.length) = some q) (z : l.length ≤ n) : nthL (l ++ L) n = some q := by rw [nthL_app, if_neg (by omega)]; exact e
theorem nthL_map (f : Nat → Nat) : ∀ (l : List Nat) (n q : Nat), nthL l n = some q → nthL (l.map f) n = some (f q)
  | [], n, q, e => by
    have e : (none : Option Nat) = some q := e
    cases e
  | a :: l, 0, q, e => by
    have e : some a = some q := e
    cases e
    rfl
  | a :: l, n + 1, q, e => nthL_map f l n q e
theorem nthL_mem : ∀ {l : List Nat} {n q : Nat}, nthL l n = some q → q ∈ l
  | [], n, q, e => by
    have e : (none : Option Nat) = some q := e
    cases e
  | a :: l, 0, q, e => by
    have e : some a = some q := e
    cases e
    exact List.mem_cons.mpr (Or.inl rfl)
  | a :: l, n + 1, q, e => List.mem_cons.mpr (Or.inr (nthL_mem (l := l) (n := n) e))
/-- what is written from place A on -/
def WRL (c : Nat → Int32) : Nat → List Nat → Prop
  | _, [] => True
  | A, v :: L => c A = Int32.ofNat v ∧ WRL c (A + 1) L
theorem WRL_c {c : Nat → Int32} {A v : Nat} {L : List Nat} : WRL c A (v :: L) ↔ c A = Int32.ofNat v ∧ WRL c (A + 1) L := Iff.rfl
theorem WRL.app {c : Nat → Int32} : ∀ {l L : List Nat} {A : Nat}, WRL c A l → WRL c (A + l.length) L → WRL c A (l ++ L)
  | [], L, A, _, w => w
  | v :: l, L, A, w1, w2 => by
    obtain ⟨a, b⟩ := WRL_c.mp w1
    rw [List.length_cons, show A + (l.length + 1) = A + 1 + l.length by omega] at w2
    exact WRL_c.mpr ⟨a, WRL.app b w2⟩
theorem WRL.fr {c c' : Nat → Int32} : ∀ {L : List Nat} {A : Nat}, (∀ j, A ≤ j → j < A + L.length → c' j = c j) → WRL c A L → WRL c' A L
  | [], A, _, _ => trivial
  | v :: L, A, f, w => by
    obtain ⟨a, b⟩ := WRL_c.mp w
    rw [List.length_cons] at f
    exact WRL_c.mpr ⟨(f A (by omega) (by omega)).trans a, WRL.fr (fun j z1 z2 => f j (by omega) (by omega)) b⟩
theorem WRL.get {c : Nat → Int32} : ∀ {L : List Nat} {A n v : Nat}, WRL c A L → nthL L n = some v → c (A + n) = Int32.ofNat v
  | [], A, n, v, _, e => by
    have e : (none : Option Nat) = some v := e
    cases e
  | a :: L, A, 0, v, w, e => by
    have e : some a = some v := e
    cases e
    exact (WRL_c.mp w).1
  | a :: L, A, n + 1, v, w, e => by
    rw [show A + (n + 1) = A + 1 + n by omega]
    exact WRL.get (WRL_c.mp w).2 e
/-- only the list is written, from place A on -/
def LFR (t A : Nat) (h h' : Hp) : Prop := (∀ r j : Nat, ¬ (r = 11 + 24 * t ∧ A ≤ j) → h'.1 r j = h.1 r j) ∧ h'.2 = h.2
theorem LFR.refl (t A : Nat) (h : Hp) : LFR t A h h := ⟨fun _ _ _ => rfl, rfl⟩
theorem LFR.trans {t A B : Nat} {h h1 h2 : Hp} (ab : A ≤ B) (x : LFR t A h h1) (y : LFR t B h1 h2) : LFR t A h h2 := ⟨fun r j z => (y.1 r j (fun q => z ⟨q.1, Nat.le_trans ab q.2⟩)).trans (x.1 r j z), y.2.trans x.2⟩
theorem LFR.c {t A r : Nat} {h h' : Hp} (x : LFR t A h h') (n : r ≠ 11 + 24 * t) : h'.1 r = h.1 r := funext fun j => x.1 r j (fun z => n z.1)
theorem LFR.set {t A B : Nat} {h : Hp} {v : Int32} (z : A ≤ B) : LFR t A h (fl_setI h (11 + 24 * t) B v) := ⟨fun r j n => setI_no (fun y => n ⟨y.1, by omega⟩), rfl⟩
/-! ROWS TOLD IN A LIST -/
def RWL (b hd : Nat → Int32) (P : Nat → Nat → Prop) (st : Nat → Int) : Nat → Nat → List Nat → Prop
  | _, 0, Q => Q = []
  | r, n + 1, Q => ∃ l Q', RLl b (hd r) (P r) st l ∧ RWL b hd P st (r + 1) n Q' ∧ Q = l ++ Q'
theorem RWs.l {h hm : Hp} {t s a : Nat} {fr : Int} (R : RWs h hm t s a fr) : ∀ n r : Nat, r + n ≤ 8 → ∃ Q, RWL (h.1 (15 + 24 * t + 4 * s)) (h.1 a) (fun r : Nat => inP hm t s fr r) (kS hm t s) r n Q
  | 0, r, _ => ⟨[], rfl⟩
  | n + 1, r, hr => by
    obtain ⟨l, a1⟩ := R r (by omega)
    obtain ⟨Q, a2⟩ := RWs.l R n (r + 1) (by omega)
    exact ⟨l ++ Q, l, Q, a1, a2, rfl⟩
section RWLs
variable {b hd : Nat → Int32} {P : Nat → Nat → Prop} {st : Nat → Int}
theorem RWL.mem {q : Nat} : ∀ {n r : Nat} {Q : List Nat}, RWL b hd P st r n Q → (q ∈ Q ↔ ∃ r', r ≤ r' ∧ r' < r + n ∧ q < 8 ∧ P r' q)
  | 0, r, Q, w => by
    have w : Q = [] := w
    subst w
    constructor
    · intro z; cases z
    · intro z
      obtain ⟨r', z1, z2, -⟩ := z
      exact absurd z2 (by omega)
  | n + 1, r, Q, w => by
    obtain ⟨l, Q', a1, a2, rfl⟩ := w
    rw [List.mem_append, a1.2.1 q, RWL.mem a2]
    constructor
    · intro z
      rcases z with ⟨z1, z2⟩ | ⟨r', z1, z2, z3, z4⟩
      · exact ⟨r, Nat.le_refl _, by omega, z1, z2⟩
      · exact ⟨r', by omega, by omega, z3, z4⟩
    · intro z
      obtain ⟨r', z1, z2, z3, z4⟩ := z
      by_cases e : r' = r
      · subst e; exact Or.inl ⟨z3, z4⟩
      · exact Or.inr ⟨r', by omega, by omega, z3, z4⟩
theorem RWL.nd (u : ∀ r1 r2 q : Nat, P r1 q → P r2 q → r1 = r2) : ∀ {n r : Nat} {Q : List Nat}, RWL b hd P st r n Q → Q.Nodup
  | 0, r, Q, w => by
    have w : Q = [] := w
    rw [w]
    exact List.Pairwise.nil
  | n + 1, r, Q, w => by
    obtain ⟨l, Q', a1, a2, rfl⟩ := w
    refine List.nodup_append.mpr ⟨a1.nd, RWL.nd u a2, fun x hx y hy e => ?_⟩
    subst e
    have z1 := ((a1.2.1 x).mp hx).2
    obtain ⟨r', z2, z3, z4, z5⟩ := (RWL.mem a2).mp hy
    have := u r r' x z1 z5
    omega
theorem RWL.split : ∀ {n m r : Nat} {Q : List Nat}, RWL b hd P st r (n + m) Q → ∃ Q1 Q2, RWL b hd P st r n Q1 ∧ RWL b hd P st (r + n) m Q2 ∧ Q = Q1 ++ Q2
  | 0, m, r, Q, w => ⟨[], Q, rfl, by rw [Nat.zero_add] at w; exact w, rfl⟩
  | n + 1, m, r, Q, w => by
    rw [show n + 1 + m = (n + m) + 1 by omega] at w
    obtain ⟨l, Q', a1, a2, rfl⟩ := w
    obtain ⟨Q1, Q2, c1, c2, rfl⟩ := RWL.split a2
    exact ⟨l ++ Q1, Q2, ⟨l, Q1, a1, c1, rfl⟩, by rw [show r + (n + 1) = r + 1 + n by omega]; exact c2, (List.append_assoc _ _ _).symm⟩
theorem RWL.nil {n r : Nat} {Q : List Nat} (w : RWL b hd P st r n Q) (f : ∀ r' q : Nat, r ≤ r' → r' < r + n → q < 8 → ¬ P r' q) : Q = [] := by
  cases Q with
  | nil => rfl
  | cons q Q =>
    obtain ⟨r', z1, z2, z3, z4⟩ := (RWL.mem w).mp (List.mem_cons.mpr (Or.inl rfl))
    exact absurd z4 (f r' q z1 z2 z3)
end RWLs
theorem nlen {h : Hp} {t s : Nat} : ∀ (n : Nat) (l : List Nat), l.Nodup → (∀ q, q ∈ l ↔ q < n ∧ kH h t s q ≠ 0) → l.length = nH h t s n
  | 0, [], _, _ => rfl
  | 0, q :: l, _, f => absurd ((f q).mp (List.mem_cons.mpr (Or.inl rfl))).1 (Nat.not_lt_zero q)
  | n + 1, l, d, f => by
    unfold nH
    by_cases hn : kH h t s n = 0
    · rw [if_pos hn, Nat.add_zero]
      refine nlen n l d (fun q => ⟨fun z => ?_, fun z => (f q).mpr ⟨Nat.lt_succ_of_lt z.1, z.2⟩⟩)
      obtain ⟨z1, z2⟩ := (f q).mp z
      have z3 : q ≠ n := fun e => z2 (by rw [e]; exact hn)
      exact ⟨by omega, z2⟩
    · rw [if_neg hn]
      have hm : n ∈ l := (f n).mpr ⟨Nat.lt_succ_self n, hn⟩
      have := nlen n (l.erase n) (d.erase n) (fun q => by
        rw [d.mem_erase_iff, f q]
        constructor
        · intro z
          obtain ⟨z1, z2, z3⟩ := z
          exact ⟨by omega, z3⟩
        · intro z
          obtain ⟨z1, z2⟩ := z
          exact ⟨by omega, by omega, z2⟩)
      rw [List.length_erase_of_mem hm] at this
      have hl : l.length ≠ 0 := fun z => by
        cases l with
        | nil => cases hm
        | cons a l => rw [List.length_cons] at z; omega
      omega
/-- a stripe's cards in their order -/
def STL (h hm : Hp) (t s : Nat) (Q : List Nat) : Prop := ∃ a b Qa Qb, AB t s a b ∧ SW t s a b h.2 ∧ RWL (h.1 (15 + 24 * t + 4 * s)) (h.1 a) (fun r : Nat => inP hm t s 0 r) (kS hm t s) 0 8 Qa ∧ RWL (h.1 (15 + 24 * t + 4 * s)) (h.1 b) (fun r : Nat => inP hm t s 1 r) (kS hm t s) 0 8 Qb ∧ Q = Qa ++ Qb
theorem STS.l {h hm : Hp} {t s : Nat} (A : STS h hm t s) : ∃ Q, STL h hm t s Q := by
  obtain ⟨a, b, n, rm, ab, sw, ⟨r1, r2⟩, -⟩ := A
  obtain ⟨Qa, wa⟩ := RWs.l r1 8 0 (by omega)
  obtain ⟨Qb, wb⟩ := RWs.l r2 8 0 (by omega)
  exact ⟨Qa ++ Qb, a, b, Qa, Qb, ab, sw, wa, wb, rfl⟩
theorem inP_u {h : Hp} {t s : Nat} {fr : Int} : ∀ r1 r2 q : Nat, inP h t s fr r1 q → inP h t s fr r2 q → r1 = r2 := fun r1 r2 q z1 z2 => by
  have a := z1.2.2
  have b := z2.2.2
  omega
theorem STL.mem {h hm : Hp} {t s q : Nat} {Q : List Nat} (A : STS h hm t s) (w : STL h hm t s Q) : q ∈ Q ↔ q < 8 ∧ kH hm t s q ≠ 0 := by
  obtain ⟨a, b, Qa, Qb, ab, sw, wa, wb, rfl⟩ := w
  obtain ⟨a', b', n, rm, -, -, -, -, g4, -, -, g7⟩ := A
  rw [List.mem_append, RWL.mem wa, RWL.mem wb]
  constructor
  · intro z
    rcases z with ⟨r', z1, z2, z3, z4⟩ | ⟨r', z1, z2, z3, z4⟩
    · exact ⟨z3, z4.1⟩
    · exact ⟨z3, z4.1⟩
  · intro z
    obtain ⟨z1, z2⟩ := z
    obtain ⟨y1, y2, y3⟩ := g7 q z1 z2
    have nq := n_q z1 g4
    rcases y1 with y1 | y1
    · exact Or.inl ⟨q % n, by omega, by omega, z1, z2, y1, (y2 y1).1⟩
    · exact Or.inr ⟨q % (2 * n), by omega, by omega, z1, z2, y1, (y3 y1).2⟩
theorem STL.len {h hm : Hp} {t s : Nat} {Q : List Nat} (A : STS h hm t s) (w : STL h hm t s Q) : Q.length = nH hm t s 8 := by
  refine nlen 8 Q ?_ (fun q => w.mem A)
  obtain ⟨a, b, Qa, Qb, ab, sw, wa, wb, rfl⟩ := w
  refine List.nodup_append.mpr ⟨RWL.nd inP_u wa, RWL.nd inP_u wb, fun x hx y hy e => ?_⟩
  subst e
  obtain ⟨r1, -, -, -, z1⟩ := (RWL.mem wa).mp hx
  obtain ⟨r2, -, -, -, z2⟩ := (RWL.mem wb).mp hy
  have a := z1.2.1
  have b := z2.2.1
  omega
theorem STL.fr {h h' hm : Hp} {t s A : Nat} {Q : List Nat} (s4 : s < 4) (F : LFR t A h h') (w : STL h hm t s Q) : STL h' hm t s Q := by
  obtain ⟨a, b, Qa, Qb, ab, sw, wa, wb, e⟩ := w
  have ab' := ab
  unfold AB at ab'
  refine ⟨a, b, Qa, Qb, ab, by rw [F.2]; exact sw, ?_, ?_, e⟩
  · rw [F.c (by omega), F.c (by omega)]; exact wa
  · rw [F.c (by omega), F.c (by omega)]; exact wb
/-- a tray's cards in their order -/
def TRL (h hm : Hp) (t : Nat) : Nat → Nat → List Nat → Prop
  | _, 0, L => L = []
  | s, n + 1, L => ∃ Q L', STL h hm t s Q ∧ TRL h hm t (s + 1) n L' ∧ L = (Q.map fun q => 4 * q + s) ++ L'
theorem TRL.fr {h h' hm : Hp} {t A : Nat} (F : LFR t A h h') : ∀ {n s : Nat} {L : List Nat}, s + n ≤ 4 → TRL h hm t s n L → TRL h' hm t s n L
  | 0, s, L, _, w => w
  | n + 1, s, L, hs, w => by
    obtain ⟨Q, L', w1, w2, e⟩ := w
    exact ⟨Q, L', w1.fr (by omega) F, TRL.fr F (by omega) w2, e⟩
theorem TRL.x {h hm : Hp} {t : Nat} (A : ∀ s : Nat, s < 4 → STS h hm t s) : ∀ n s : Nat, s + n ≤ 4 → ∃ L, TRL h hm t s n L
  | 0, s, _ => ⟨[], rfl⟩
  | n + 1, s, hs => by
    obtain ⟨Q, a1⟩ := (A s (by omega)).l
    obtain ⟨L, a2⟩ := TRL.x A n (s + 1) (by omega)
    exact ⟨_, Q, L, a1, a2, rfl⟩
def nHs (h : Hp) (t : Nat) : Nat → Nat → Nat
  | _, 0 => 0
  | s, n + 1 => nH h t s 8 + nHs h t (s + 1) n
theorem TRL.len {h hm : Hp} {t : Nat} (A : ∀ s : Nat, s < 4 → STS h hm t s) : ∀ {n s : Nat} {L : List Nat}, s + n ≤ 4 → TRL h hm t s n L → L.length = nHs hm t s n
  | 0, s, L, _, w => by
    have w : L = [] := w
    rw [w]; rfl
  | n + 1, s, L, hs, w => by
    obtain ⟨Q, L', w1, w2, rfl⟩ := w
    rw [List.length_append, List.length_map, w1.len (A s (by omega)), TRL.len A (by omega) w2]
    rfl
theorem TRL.mem {h hm : Hp} {t v : Nat} (A : ∀ s : Nat, s < 4 → STS h hm t s) : ∀ {n s : Nat} {L : List Nat}, s + n ≤ 4 → TRL h hm t s n L → v ∈ L → v < 32 ∧ (hm.1 255 (32 * t + v)).toInt ≠ 0
  | 0, s, L, _, w, hv => by
    have w : L = [] := w
    subst w
    cases hv
  | n + 1, s, L, hs, w, hv => by
    obtain ⟨Q, L', w1, w2, rfl⟩ := w
    rcases List.mem_append.mp hv with z | z
    · obtain ⟨q, z1, z2⟩ := List.mem_map.mp z
      obtain ⟨z3, z4⟩ := (w1.mem (A s (by omega))).mp z1
      have z2 : 4 * q + s = v := z2
      subst z2
      exact ⟨by omega, z4⟩
    · exact TRL.mem A (by omega) w2 z
