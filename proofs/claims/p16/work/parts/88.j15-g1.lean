
set_option maxRecDepth 20000
/-! ROWS OF CARDS: chains and their lists -/
def chn (b : Nat → Int32) : Int32 → List Nat → Prop
  | v, [] => v = Int32.ofInt (-1)
  | v, q :: l => v = Int32.ofNat q ∧ q < 8 ∧ chn b (b q) l
theorem chn_c {b : Nat → Int32} {v : Int32} {q : Nat} {l : List Nat} : chn b v (q :: l) ↔ v = Int32.ofNat q ∧ q < 8 ∧ chn b (b q) l := Iff.rfl
theorem chn_fr {b b' : Nat → Int32} : ∀ {l : List Nat} {v : Int32}, (∀ q, q ∈ l → b' q = b q) → chn b v l → chn b' v l
  | [], _, _, c => c
  | q :: l, _, f, c => by
    obtain ⟨c1, c2, c3⟩ := chn_c.mp c
    refine chn_c.mpr ⟨c1, c2, ?_⟩
    rw [f q (List.mem_cons.mpr (Or.inl rfl))]
    exact chn_fr (fun x hx => f x (List.mem_cons.mpr (Or.inr hx))) c3
theorem chn_del {b b' : Nat → Int32} {x q : Nat} (e : b' x = b q) (f : ∀ y, y ≠ x → b' y = b y) : ∀ {p post : List Nat} {v : Int32}, chn b v (p ++ x :: q :: post) → (p ++ x :: q :: post).Nodup → chn b' v (p ++ x :: post)
  | [], post, v, c, d => by
    obtain ⟨c1, c2, c3⟩ := chn_c.mp c
    obtain ⟨c4, c5, c6⟩ := chn_c.mp c3
    refine chn_c.mpr ⟨c1, c2, ?_⟩
    rw [e]
    refine chn_fr (fun y hy => f y (fun z => ?_)) c6
    have := (List.nodup_cons.mp d).1
    exact this (List.mem_cons.mpr (Or.inr (z ▸ hy)))
  | a :: p, post, v, c, d => by
    obtain ⟨c1, c2, c3⟩ := chn_c.mp c
    obtain ⟨d1, d2⟩ := List.nodup_cons.mp d
    refine chn_c.mpr ⟨c1, c2, ?_⟩
    rw [f a (fun z => d1 (by rw [z]; exact List.mem_append.mpr (Or.inr (List.mem_cons.mpr (Or.inl rfl)))))]
    exact chn_del e f c3 d2
theorem dlen : ∀ (n : Nat) (l : List Nat), l.Nodup → (∀ q, q ∈ l → q < n) → l.length ≤ n
  | 0, [], _, _ => Nat.le_refl _
  | 0, q :: l, _, f => absurd (f q (List.mem_cons.mpr (Or.inl rfl))) (Nat.not_lt_zero q)
  | n + 1, l, d, f => by
    by_cases hn : n ∈ l
    · have := dlen n (l.erase n) (d.erase n) (fun q hq => by
        have z := (d.mem_erase_iff).mp hq
        have z2 := f q z.2
        have z1 := z.1
        omega)
      rw [List.length_erase_of_mem hn] at this
      omega
    · have := dlen n l d (fun q hq => by
        have z2 := f q hq
        have z3 : q ≠ n := fun z => hn (z ▸ hq)
        omega)
      omega
/-- a chain tells just the cards of P, the latest first -/
def RLl (b : Nat → Int32) (v : Int32) (P : Nat → Prop) (st : Nat → Int) (l : List Nat) : Prop := chn b v l ∧ (∀ q, q ∈ l ↔ q < 8 ∧ P q) ∧ l.Pairwise (fun x y => st y < st x)
def RLx (b : Nat → Int32) (v : Int32) (P : Nat → Prop) (st : Nat → Int) : Prop := ∃ l, RLl b v P st l
section RLs
variable {b b' : Nat → Int32} {v v' : Int32} {P P' : Nat → Prop} {st st' : Nat → Int} {l : List Nat} {q : Nat}
theorem RLl.nd (R : RLl b v P st l) : l.Nodup := R.2.2.imp (fun {x y} h e => by subst e; exact Int.lt_irrefl _ h)
theorem RLl.len (R : RLl b v P st l) : l.length ≤ 8 := dlen 8 l R.nd (fun q hq => ((R.2.1 q).mp hq).1)
theorem RLl.fr (R : RLl b v P st l) (f : ∀ q, q < 8 → P q → b' q = b q ∧ st' q = st q) (p : ∀ q, q < 8 → (P' q ↔ P q)) : RLl b' v P' st' l := by
  obtain ⟨c, m, s⟩ := R
  refine ⟨chn_fr (fun q hq => (f q ((m q).mp hq).1 ((m q).mp hq).2).1) c, fun q => ?_, s.imp_of_mem (fun {x y} hx hy z => ?_)⟩
  · rw [m q]
    exact ⟨fun ⟨a, b⟩ => ⟨a, (p q a).mpr b⟩, fun ⟨a, b⟩ => ⟨a, (p q a).mp b⟩⟩
  · rw [(f x ((m x).mp hx).1 ((m x).mp hx).2).2, (f y ((m y).mp hy).1 ((m y).mp hy).2).2]
    exact z
theorem RLx.fr (R : RLx b v P st) (f : ∀ q, q < 8 → P q → b' q = b q ∧ st' q = st q) (p : ∀ q, q < 8 → (P' q ↔ P q)) : RLx b' v P' st' := by
  obtain ⟨l, R⟩ := R
  exact ⟨l, R.fr f p⟩
theorem RLl.nil (R : RLl b v P st []) : v = Int32.ofInt (-1) ∧ ∀ q, q < 8 → ¬ P q := ⟨R.1, fun q h z => by
  have := (R.2.1 q).mpr ⟨h, z⟩
  cases this⟩
theorem RLl.empty (h : ∀ q, q < 8 → ¬ P q) : RLl b (Int32.ofInt (-1)) P st [] := ⟨rfl, fun q => ⟨fun z => (by cases z), fun z => absurd z.2 (h q z.1)⟩, List.Pairwise.nil⟩
theorem RLx.none (R : RLx b v P st) (h : ∀ q, q < 8 → ¬ P q) : v = Int32.ofInt (-1) := by
  obtain ⟨l, R⟩ := R
  cases l with
  | nil => exact R.nil.1
  | cons q l => exact absurd ((R.2.1 q).mp (List.mem_cons.mpr (Or.inl rfl))).2 (h q ((R.2.1 q).mp (List.mem_cons.mpr (Or.inl rfl))).1)
theorem RLl.un (R : RLl b v P st (q :: l)) : v = Int32.ofNat q ∧ q < 8 ∧ P q ∧ (∀ x, x < 8 → P x → x ≠ q → st x < st q) ∧ RLl b (b q) (fun x => P x ∧ x ≠ q) st l := by
  obtain ⟨c, m, s⟩ := R
  obtain ⟨c1, c2, c3⟩ := chn_c.mp c
  obtain ⟨s1, s2⟩ := List.pairwise_cons.mp s
  have hq := (m q).mp (List.mem_cons.mpr (Or.inl rfl))
  refine ⟨c1, c2, hq.2, fun x a b n => ?_, c3, fun x => ⟨fun h => ?_, fun h => ?_⟩, s2⟩
  · have := List.mem_cons.mp ((m x).mpr ⟨a, b⟩)
    exact s1 x (this.resolve_left n)
  · have z := (m x).mp (List.mem_cons.mpr (Or.inr h))
    exact ⟨z.1, z.2, fun e => by subst e; exact Int.lt_irrefl _ (s1 _ h)⟩
  · exact (List.mem_cons.mp ((m x).mpr ⟨h.1, h.2.1⟩)).resolve_left h.2.2
theorem RLx.push (R : RLx b v P st) (hq : q < 8) (f : ∀ x, x < 8 → P x → b' x = b x ∧ st' x = st x ∧ st x < st' q) (e : b' q = v) (p : ∀ x, x < 8 → (P' x ↔ x = q ∨ P x)) : RLx b' (Int32.ofNat q) P' st' := by
  obtain ⟨l, c, m, s⟩ := R
  have g : ∀ x, x ∈ l → b' x = b x ∧ st' x = st x ∧ st x < st' q := fun x hx => f x ((m x).mp hx).1 ((m x).mp hx).2
  refine ⟨q :: l, chn_c.mpr ⟨rfl, hq, ?_⟩, fun x => ?_, List.pairwise_cons.mpr ⟨fun x hx => ?_, s.imp_of_mem (fun {x y} hx hy z => ?_)⟩⟩
  · rw [e]
    exact chn_fr (fun x hx => (g x hx).1) c
  · rw [List.mem_cons, m x]
    constructor
    · intro z
      rcases z with z | ⟨z1, z2⟩
      · rw [z]; exact ⟨hq, (p q hq).mpr (Or.inl rfl)⟩
      · exact ⟨z1, (p x z1).mpr (Or.inr z2)⟩
    · intro z
      rcases (p x z.1).mp z.2 with w | w
      · exact Or.inl w
      · exact Or.inr ⟨z.1, w⟩
  · rw [(g x hx).2.1]
    exact (g x hx).2.2
  · rw [(g x hx).2.1, (g y hy).2.1]
    exact z
theorem RLl.del {pre post : List Nat} (R : RLl b v P st (pre ++ q :: post)) (h : (pre = [] ∧ v' = b q ∧ ∀ y, b' y = b y) ∨ ∃ (p : List Nat) (x : Nat), pre = p ++ [x] ∧ v' = v ∧ b' x = b q ∧ ∀ y, y ≠ x → b' y = b y) (f : ∀ x, x < 8 → x ≠ q → P x → st' x = st x) (p : ∀ x, x < 8 → (P' x ↔ P x ∧ x ≠ q)) : RLx b' v' P' st' := by
  have d := R.nd
  obtain ⟨c, m, s⟩ := R
  obtain ⟨d1, d2, d3⟩ := List.nodup_append.mp d
  obtain ⟨d4, d5⟩ := List.nodup_cons.mp d2
  have q1 : q ∉ pre := fun z => d3 q z q (List.mem_cons.mpr (Or.inl rfl)) rfl
  have mm : ∀ x, x ∈ pre ++ post ↔ x < 8 ∧ P x ∧ x ≠ q := fun x => by
    constructor
    · intro z
      have z1 : x ∈ pre ++ q :: post := by
        rcases List.mem_append.mp z with w | w
        · exact List.mem_append.mpr (Or.inl w)
        · exact List.mem_append.mpr (Or.inr (List.mem_cons.mpr (Or.inr w)))
      refine ⟨((m x).mp z1).1, ((m x).mp z1).2, fun e => ?_⟩
      subst e
      rcases List.mem_append.mp z with w | w
      · exact q1 w
      · exact d4 w
    · intro ⟨z1, z2, z3⟩
      rcases List.mem_append.mp ((m x).mpr ⟨z1, z2⟩) with w | w
      · exact List.mem_append.mpr (Or.inl w)
      · exact List.mem_append.mpr (Or.inr ((List.mem_cons.mp w).resolve_left z3))
  obtain ⟨s1, s2, s3⟩ := List.pairwise_append.mp s
  have ss : (pre ++ post).Pairwise (fun x y => st y < st x) := List.pairwise_append.mpr ⟨s1, (List.pairwise_cons.mp s2).2, fun a ha b hb => s3 a ha b (List.mem_cons.mpr (Or.inr hb))⟩
  refine ⟨pre ++ post, ?_, fun x => ?_, ss.imp_of_mem (fun {x y} hx hy z => ?_)⟩
  · rcases h with ⟨rfl, h2, h3⟩ | ⟨p, x, rfl, h2, h3, h4⟩
    · rw [h2]
      exact chn_fr (fun y _ => h3 y) (chn_c.mp c).2.2
    · rw [h2]
      rw [List.append_assoc] at c d ⊢
      exact chn_del h3 h4 c d
  · rw [mm x]
    exact ⟨fun ⟨z1, z2⟩ => ⟨z1, (p x z1).mpr z2⟩, fun ⟨z1, z2⟩ => ⟨z1, (p x z1).mp z2⟩⟩
  · obtain ⟨x1, x2, x3⟩ := (mm x).mp hx
    obtain ⟨y1, y2, y3⟩ := (mm y).mp hy
    rw [f x x1 x3 x2, f y y1 y3 y2]
    exact z
end RLs
/-! STRIPES ON BOTH SIDES -/
def kH (h : Hp) (t s q : Nat) : Int := (h.1 255 (32 * t + (4 * q + s))).toInt
def kR (h : Hp) (t s q : Nat) : Int := (h.1 257 (32 * t + (4 * q + s))).toInt
def kN (h : Hp) (t s q : Nat) : Int := (h.1 258 (32 * t + (4 * q + s))).toInt
def kS (h : Hp) (t s q : Nat) : Int := (h.1 259 (32 * t + (4 * q + s))).toInt
/-- card q stands in row r, old or new -/
def inP (h : Hp) (t s : Nat) (fr r : Int) (q : Nat) : Prop := kH h t s q ≠ 0 ∧ kN h t s q = fr ∧ kR h t s q = r
def nH (h : Hp) (t s : Nat) : Nat → Nat
  | 0 => 0
  | n + 1 => nH h t s n + (if kH h t s n = 0 then 0 else 1)
theorem nH_le (h : Hp) (t s : Nat) : ∀ n, nH h t s n ≤ n
  | 0 => Nat.le_refl _
  | n + 1 => by
    have := nH_le h t s n
    unfold nH
    split <;> omega
theorem nH_eq {h h' : Hp} {t s : Nat} : ∀ n, (∀ q, q < n → (kH h' t s q = 0 ↔ kH h t s q = 0)) → nH h' t s n = nH h t s n
  | 0, _ => rfl
  | n + 1, f => by
    unfold nH
    rw [nH_eq n (fun q hq => f q (by omega))]
    have := f n (by omega)
    by_cases z : kH h t s n = 0
    · rw [if_pos z, if_pos (this.mpr z)]
    · rw [if_neg z, if_neg (fun y => z (this.mp y))]
theorem nH_add {h h' : Hp} {t s q : Nat} (h0 : kH h t s q = 0) (h1 : kH h' t s q ≠ 0) : ∀ n, (∀ x, x < n → x ≠ q → (kH h' t s x = 0 ↔ kH h t s x = 0)) → nH h' t s n = nH h t s n + (if q < n then 1 else 0)
  | 0, _ => rfl
  | n + 1, f => by
    unfold nH
    rw [nH_add h0 h1 n (fun x hx => f x (by omega))]
    by_cases e : n = q
    · subst e
      rw [if_neg h1, if_pos h0, if_neg (by omega), if_pos (by omega)]
    · have := f n (by omega) e
      have e2 : (if q < n then 1 else 0) = (if q < n + 1 then 1 else 0) := by split <;> split <;> omega
      rw [e2]
      by_cases z : kH h t s n = 0
      · rw [if_pos z, if_pos (this.mpr z)]; omega
      · rw [if_neg z, if_neg (fun y => z (this.mp y))]; omega
def RWs (h hm : Hp) (t s a : Nat) (fr : Int) : Prop := ∀ r : Nat, r < 8 → RLx (h.1 (15 + 24 * t + 4 * s)) (h.1 a r) (inP hm t s fr r) (kS hm t s)
/-- where the rows of stripe s of tray t lie -/
def SW (t s hd nh : Nat) (R : Nat → Nat → Option Nat) : Prop := R (12 + 24 * t + 4 * s) 0 = some hd ∧ R (12 + 24 * t + 4 * s) 1 = some nh ∧ R (12 + 24 * t + 4 * s) 2 = some (15 + 24 * t + 4 * s)
def AB (t s a b : Nat) : Prop := (a = 13 + 24 * t + 4 * s ∧ b = 14 + 24 * t + 4 * s) ∨ (a = 14 + 24 * t + 4 * s ∧ b = 13 + 24 * t + 4 * s)
/-- a stripe, its rows at a, its new ones at b; n rows, rm of them moved -/
def STa (h hm : Hp) (t s a b n rm : Nat) : Prop := AB t s a b ∧ SW t s a b h.2 ∧ (RWs h hm t s a 0 ∧ RWs h hm t s b 1) ∧
  (h.1 (12 + 24 * t + 4 * s) 3 = Int32.ofNat n ∧ hm.1 266 (4 * t + s) = Int32.ofNat n ∧ h.1 (12 + 24 * t + 4 * s) 5 = hm.1 267 (4 * t + s)) ∧ (n = 1 ∨ n = 2 ∨ n = 4) ∧
  ((hm.1 267 (4 * t + s)).toInt ≠ 0 → n ≤ 2 ∧ rm < n ∧ h.1 (12 + 24 * t + 4 * s) 6 = Int32.ofNat rm ∧ hm.1 268 (4 * t + s) = Int32.ofNat rm) ∧
  h.1 (12 + 24 * t + 4 * s) 4 = Int32.ofNat (nH hm t s 8) ∧
  ∀ q : Nat, q < 8 → kH hm t s q ≠ 0 → (kN hm t s q = 0 ∨ kN hm t s q = 1) ∧ (kN hm t s q = 0 → kR hm t s q = ((q % n : Nat) : Int) ∧ ((hm.1 267 (4 * t + s)).toInt ≠ 0 → (rm : Int) ≤ kR hm t s q)) ∧ (kN hm t s q = 1 → (hm.1 267 (4 * t + s)).toInt ≠ 0 ∧ kR hm t s q = ((q % (2 * n) : Nat) : Int))
def STS (h hm : Hp) (t s : Nat) : Prop := ∃ a b n rm : Nat, STa h hm t s a b n rm
/-- what an act on stripe s of tray t may touch -/
def FXs (t s : Nat) (h h' : Hp) : Prop := (∀ r j : Nat, ¬ (12 + 24 * t + 4 * s ≤ r ∧ r < 16 + 24 * t + 4 * s) → h'.1 r j = h.1 r j) ∧ ∀ r j : Nat, ¬ (r = 12 + 24 * t + 4 * s ∧ j < 2) → h'.2 r j = h.2 r j
def FMs (t s : Nat) (hm hm' : Hp) : Prop := (∀ K j : Nat, ¬ (K = 223 ∧ j = 42) → ¬ (257 ≤ K ∧ K ≤ 259 ∧ 32 * t ≤ j ∧ j < 32 * t + 32 ∧ j % 4 = s) → ¬ (266 ≤ K ∧ K ≤ 268 ∧ j = 4 * t + s) → ¬ (269 ≤ K ∧ K ≤ 270 ∧ j = t) → hm'.1 K j = hm.1 K j) ∧ hm'.2 = hm.2
/-- growths and moved cards come alike -/
def SUx (t s : Nat) (h hm h' hm' : Hp) : Prop := (∃ x, h'.1 (12 + 24 * t + 4 * s) 7 = h.1 (12 + 24 * t + 4 * s) 7 + x ∧ hm'.1 269 t = hm.1 269 t + x) ∧ ∃ x, h'.1 (12 + 24 * t + 4 * s) 8 = h.1 (12 + 24 * t + 4 * s) 8 + x ∧ hm'.1 270 t = hm.1 270 t + x
def UPx (t s : Nat) (h hm h' hm' : Hp) : Prop := FXs t s h h' ∧ FMs t s hm hm' ∧ SUx t s h hm h' hm'
theorem UPx.refl (t s : Nat) (h hm : Hp) : UPx t s h hm h hm := ⟨⟨fun _ _ _ => rfl, fun _ _ _ => rfl⟩, ⟨fun _ _ _ _ _ _ => rfl, rfl⟩, ⟨Int32.ofInt 0, (Int32.add_zero _).symm, (Int32.add_zero _).symm⟩, ⟨Int32.ofInt 0, (Int32.add_zero _).symm, (Int32.add_zero _).symm⟩⟩
theorem UPx.trans {t s : Nat} {h hm h1 hm1 h2 hm2 : Hp} (x : UPx t s h hm h1 hm1) (y : UPx t s h1 hm1 h2 hm2) : UPx t s h hm h2 hm2 := by
  obtain ⟨⟨x1, x2⟩, ⟨x3, x4⟩, ⟨u, x5, x6⟩, ⟨v, x7, x8⟩⟩ := x
  obtain ⟨⟨y1, y2⟩, ⟨y3, y4⟩, ⟨u', y5, y6⟩, ⟨v', y7, y8⟩⟩ := y
  exact ⟨⟨fun r j z => (y1 r j z).trans (x1 r j z), fun r j z => (y2 r j z).trans (x2 r j z)⟩, ⟨fun K j z1 z2 z3 z4 => (y3 K j z1 z2 z3 z4).trans (x3 K j z1 z2 z3 z4), y4.trans x4⟩,
    ⟨u + u', by rw [y5, x5, Int32.add_assoc], by rw [y6, x6, Int32.add_assoc]⟩, ⟨v + v', by rw [y7, x7, Int32.add_assoc], by rw [y8, x8, Int32.add_assoc]⟩⟩
/-- a stripe left alone stays -/
theorem STS.fr {h h' hm hm' : Hp} {t s : Nat} (x : ∀ r j : Nat, 12 + 24 * t + 4 * s ≤ r → r < 16 + 24 * t + 4 * s → h'.1 r j = h.1 r j) (x2 : ∀ j : Nat, h'.2 (12 + 24 * t + 4 * s) j = h.2 (12 + 24 * t + 4 * s) j) (m : ∀ K q : Nat, K = 255 ∨ 257 ≤ K ∧ K ≤ 259 → q < 8 → hm'.1 K (32 * t + (4 * q + s)) = hm.1 K (32 * t + (4 * q + s))) (m2 : ∀ K : Nat, 266 ≤ K → K ≤ 268 → hm'.1 K (4 * t + s) = hm.1 K (4 * t + s)) (A : STS h hm t s) : STS h' hm' t s := by
  obtain ⟨a, b, n, rm, ab, ⟨w1, w2, w3⟩, ⟨r1, r2⟩, ⟨g1, g2, g3⟩, g4, g5, g6, g7⟩ := A
  have eH : ∀ q, q < 8 → kH hm' t s q = kH hm t s q := fun q hq => by unfold kH; rw [m 255 q (Or.inl rfl) hq]
  have eR : ∀ q, q < 8 → kR hm' t s q = kR hm t s q := fun q hq => by unfold kR; rw [m 257 q (by omega) hq]
  have eN : ∀ q, q < 8 → kN hm' t s q = kN hm t s q := fun q hq => by unfold kN; rw [m 258 q (by omega) hq]
  have eS : ∀ q, q < 8 → kS hm' t s q = kS hm t s q := fun q hq => by unfold kS; rw [m 259 q (by omega) hq]
  have rw_ : ∀ {c : Nat} {fr : Int}, (c = 13 + 24 * t + 4 * s ∨ c = 14 + 24 * t + 4 * s) → RWs h hm t s c fr → RWs h' hm' t s c fr := fun {c fr} hc R r hr => by
    rw [x c r (by omega) (by omega)]
    refine (R r hr).fr (fun q hq _ => ⟨x _ q (by omega) (by omega), eS q hq⟩) (fun q hq => ?_)
    unfold inP
    rw [eH q hq, eN q hq, eR q hq]
  have ab' := ab
  unfold AB at ab'
  refine ⟨a, b, n, rm, ab, ⟨(x2 0).trans w1, (x2 1).trans w2, (x2 2).trans w3⟩, ⟨rw_ (by omega) r1, rw_ (by omega) r2⟩, ⟨?_, ?_, ?_⟩, g4, ?_, ?_, fun q hq => ?_⟩
  · rw [x _ 3 (by omega) (by omega)]; exact g1
  · rw [m2 266 (by omega) (by omega)]; exact g2
  · rw [x _ 5 (by omega) (by omega), m2 267 (by omega) (by omega)]; exact g3
  · rw [x _ 6 (by omega) (by omega), m2 267 (by omega) (by omega), m2 268 (by omega) (by omega)]; exact g5
  · rw [x _ 4 (by omega) (by omega), nH_eq (h := hm) (h' := hm') 8 (fun q hq => by rw [eH q hq])]; exact g6
  · rw [eH q hq, eN q hq, eR q hq, m2 267 (by omega) (by omega)]; exact g7 q hq
