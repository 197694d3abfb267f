set_option maxRecDepth 20000
/-! TWO RUNS OF THE SAME CHOICES: what decides who is able is alike -/
def EqR (K : Nat) (N : Int) (h g : Hp) : Prop := ∀ i, 0 ≤ i → i < N → rd K i g = rd K i h
theorem EqR.fr {K : Nat} {N : Int} {Ks : List Nat} {fs : List Int} {h g h' g' : Hp} (e : EqR K N h g) (x : Fq Ks fs h h') (y : Fq Ks fs g g') (hc : (decide (32 ≤ K) && decide (K < 93) && !Ks.contains K) = true) : EqR K N h' g' := fun i q1 q2 => by
  rw [x.k K i hc, y.k K i hc]
  exact e i q1 q2
theorem EqR.up {K : Nat} {N j j' v v' : Int} {h g h' g' : Hp} (e : EqR K N h g) (x : Up K j v h h') (y : Up K j' v' g g') (ej : j' = j) (ev : v' = v) : EqR K N h' g' := fun i q1 q2 => by
  rw [x i q1, y i q1, ej, ev, e i q1 q2]
theorem EqR.sm {K : Nat} {N : Int} {h g h' g' : Hp} (e : EqR K N h g) (x : Sm K h h') (y : Sm K g g') : EqR K N h' g' := fun i q1 q2 => by
  rw [x i q1, y i q1, e i q1 q2]
def LE0 (h g : Hp) : Prop := (∀ K i, 32 ≤ K → K ≤ 42 → rd K i g = rd K i h) ∧ rd 31 0 g = rd 31 0 h ∧ rd 31 4 g = rd 31 4 h ∧ rd 31 15 g = rd 31 15 h ∧ rd 31 16 g = rd 31 16 h ∧
  EqR 49 40 h g ∧ EqR 51 5 h g ∧ EqR 52 5 h g ∧ EqR 53 5 h g ∧ EqR 59 5 h g ∧ EqR 62 24 h g ∧ EqR 70 6 h g ∧ EqR 72 192 h g ∧ EqR 73 192 h g ∧
  (∀ t, 0 ≤ t → t ≤ 5 → rd 32 t h = 2 → rd 69 t g = rd 69 t h) ∧ (∀ t k, 0 ≤ t → t ≤ 5 → rd 32 t h = 5 → 0 ≤ k → k < 32 → rd 63 (32 * t + k) g = rd 63 (32 * t + k) h) ∧
  (∀ c, 0 ≤ c → c < rd 31 4 h → rd 53 c h ≠ 0 → rd 54 c g = rd 54 c h)
def LEc (h g : Hp) (c a b : Int) : Prop := rd 51 c h < rd 35 c h → (rd 32 (rd 36 (8 * c + rd 51 c h) h) h = 2 → a ≤ rd 52 c h → rd 57 c g = rd 57 c h) ∧ (rd 32 (rd 36 (8 * c + rd 51 c h) h) h = 5 → b ≤ rd 52 c h → rd 58 c g = rd 58 c h)
def LE (h g : Hp) : Prop := LE0 h g ∧ ∀ c, 0 ≤ c → c < rd 31 4 h → LEc h g c 2 5
def LEx (h g : Hp) (c0 : Int) : Prop := LE0 h g ∧ (∀ c, 0 ≤ c → c < rd 31 4 h → c ≠ c0 → LEc h g c 2 5) ∧ LEc h g c0 1 4
theorem LEc.fr {Ks : List Nat} {fs : List Int} {h g h' g' : Hp} {c a b : Int} (e : LEc h g c a b) (x : Fq Ks fs h h') (y : Fq Ks fs g g') (hc : ([32, 35, 36, 51, 52, 57, 58].all fun K => !Ks.contains K) = true) : LEc h' g' c a b := by
  simp only [List.all_cons, List.all_nil, Bool.and_eq_true, Bool.and_true] at hc
  obtain ⟨c1, c2, c3, c4, c5, c6, c7⟩ := hc
  unfold LEc at e ⊢
  rw [x.k 51 c (by simpa using c4), x.k 35 c (by simpa using c2), x.k 36 _ (by simpa using c3), x.k 32 _ (by simpa using c1), x.k 52 c (by simpa using c5), x.k 57 c (by simpa using c6), y.k 57 c (by simpa using c6), x.k 58 c (by simpa using c7), y.k 58 c (by simpa using c7)]
  exact e
/-- the parts that are not written, both ways -/
theorem LE0.setup {Ks : List Nat} {fs : List Int} {h g h' g' : Hp} (L : LE0 h g) (x : Fq Ks fs h h') (y : Fq Ks fs g g') (hc : ([32, 33, 34, 35, 36, 37, 38, 39, 40, 41, 42].all fun K => !Ks.contains K) = true) : ∀ K i, 32 ≤ K → K ≤ 42 → rd K i g' = rd K i h' := fun K i k1 k2 => by
  have hm : K ∈ [32, 33, 34, 35, 36, 37, 38, 39, 40, 41, 42] := by
    have : K = 32 ∨ K = 33 ∨ K = 34 ∨ K = 35 ∨ K = 36 ∨ K = 37 ∨ K = 38 ∨ K = 39 ∨ K = 40 ∨ K = 41 ∨ K = 42 := by omega
    rcases this with rfl | rfl | rfl | rfl | rfl | rfl | rfl | rfl | rfl | rfl | rfl <;> decide
  have h1 := List.all_eq_true.mp hc K hm
  have h2 : (decide (32 ≤ K) && decide (K < 93) && !Ks.contains K) = true := by
    simp only [Bool.and_eq_true, decide_eq_true_eq]
    exact ⟨⟨k1, by omega⟩, h1⟩
  rw [x.k K i h2, y.k K i h2]
  exact L.1 K i k1 k2
theorem LE0.sts_eq {h g : Hp} (L : LE0 h g) (y c i : Int) : stS g y c i = stS h y c i := by
  have S := L.1
  unfold stS
  rw [S 36 y (by omega) (by omega), S 32 _ (by omega) (by omega), S 37 y (by omega) (by omega), S 38 y (by omega) (by omega), S 34 _ (by omega) (by omega)]
theorem LE.bg {h g h' g' : Hp} {c : Int} (L : LE h g) (b_c : 0 ≤ c ∧ c ≤ 4) (hn : 0 ≤ rd 51 c h ∧ rd 51 c h ≤ 7) (B : BgP h c h') (D : BgP g c g') : LE h' g' := by
  obtain ⟨⟨S, e0, e4, e15, e16, q49, q51, q52, q53, q59, q62, q70, q72, q73, qm, qo, qw⟩, C⟩ := L
  have en : rd 51 c g = rd 51 c h := q51 c b_c.1 (by omega)
  have e49 := q49 (8 * c + rd 51 c h) (by omega) (by omega)
  rcases B with ⟨b1, rfl⟩ | ⟨b1, x, b3, b4, -⟩
  · rcases D with ⟨d1, rfl⟩ | ⟨d1, -⟩
    · exact ⟨⟨S, e0, e4, e15, e16, q49, q51, q52, q53, q59, q62, q70, q72, q73, qm, qo, qw⟩, C⟩
    · exfalso
      rw [en] at d1
      omega
  · rcases D with ⟨d1, -⟩ | ⟨d1, y, d3, d4, -⟩
    · exfalso
      rw [en] at d1
      omega
    · have L0 : LE0 h g := ⟨S, e0, e4, e15, e16, q49, q51, q52, q53, q59, q62, q70, q72, q73, qm, qo, qw⟩
      refine ⟨⟨L0.setup x y rfl, by rw [x.f 0 rfl, y.f 0 rfl]; exact e0, by rw [x.f 4 rfl, y.f 4 rfl]; exact e4, by rw [x.f 15 rfl, y.f 15 rfl]; exact e15, by rw [b4, d4, e16], q49.up b3 d3 (by rw [en]) e16, q51.fr x y rfl, q52.fr x y rfl, q53.fr x y rfl, q59.fr x y rfl, q62.fr x y rfl, q70.fr x y rfl, q72.fr x y rfl, q73.fr x y rfl, fun t t1 t2 t3 => ?_, fun t k t1 t2 t3 t4 t5 => ?_, fun i t1 t2 t3 => ?_⟩, fun i t1 t2 => ?_⟩
      · rw [x.k 32 t rfl] at t3
        rw [x.k 69 t rfl, y.k 69 t rfl]
        exact qm t t1 t2 t3
      · rw [x.k 32 t rfl] at t3
        rw [x.k 63 _ rfl, y.k 63 _ rfl]
        exact qo t k t1 t2 t3 t4 t5
      · rw [x.f 4 rfl] at t2
        rw [x.k 53 i rfl] at t3
        rw [x.k 54 i rfl, y.k 54 i rfl]
        exact qw i t1 t2 t3
      · rw [x.f 4 rfl] at t2
        exact (C i t1 t2).fr x y rfl
/-- an act is over on both sides -/
theorem LE.ov {h g h' g' : Hp} {c x0 : Int} (L0 : LE0 h g) (C : ∀ i, 0 ≤ i → i < rd 31 4 h → i ≠ c → LEc h g i 2 5) (b_c : 0 ≤ c ∧ c ≤ 4) (O : OvP h c x0 h') (P : OvP g c x0 g') : LE h' g' := by
  have LL := L0
  obtain ⟨S, e0, e4, e15, e16, q49, q51, q52, q53, q59, q62, q70, q72, q73, qm, qo, qw⟩ := L0
  obtain ⟨x, o51, o52, o53, o59, o16, -⟩ := O
  obtain ⟨y, p51, p52, p53, p59, p16, -⟩ := P
  have en : rd 51 c g = rd 51 c h := q51 c b_c.1 (by omega)
  refine ⟨⟨LL.setup x y rfl, by rw [x.f 0 rfl, y.f 0 rfl]; exact e0, by rw [x.f 4 rfl, y.f 4 rfl]; exact e4, by rw [x.f 15 rfl, y.f 15 rfl]; exact e15, by rw [o16, p16, e16], q49.fr x y rfl, q51.up o51 p51 rfl (by rw [en]), q52.up o52 p52 rfl rfl, q53.up o53 p53 rfl rfl, q59.up o59 p59 rfl rfl, q62.fr x y rfl, q70.fr x y rfl, q72.fr x y rfl, q73.fr x y rfl, fun t t1 t2 t3 => ?_, fun t k t1 t2 t3 t4 t5 => ?_, fun i t1 t2 t3 => ?_⟩, fun i t1 t2 => ?_⟩
  · rw [x.k 32 t rfl] at t3
    rw [x.k 69 t rfl, y.k 69 t rfl]
    exact qm t t1 t2 t3
  · rw [x.k 32 t rfl] at t3
    rw [x.k 63 _ rfl, y.k 63 _ rfl]
    exact qo t k t1 t2 t3 t4 t5
  · rw [x.f 4 rfl] at t2
    rw [o53 i t1] at t3
    split at t3
    · omega
    · rw [x.k 54 i rfl, y.k 54 i rfl]
      exact qw i t1 t2 t3
  · rw [x.f 4 rfl] at t2
    unfold LEc
    rw [o51 i t1, o52 i t1, x.k 35 i rfl]
    by_cases e : i = c
    · rw [if_pos e, if_pos e]
      exact fun _ => ⟨fun _ z => by omega, fun _ z => by omega⟩
    · rw [if_neg e, if_neg e, x.k 36 _ rfl, x.k 32 _ rfl, x.k 57 i rfl, y.k 57 i rfl, x.k 58 i rfl, y.k 58 i rfl]
      exact C i t1 t2 e
theorem LE.tick {h g h' g' : Hp} (L : LE h g) (O : TickP h h') (P : TickP g g') : LE h' g' := by
  obtain ⟨L0, C⟩ := L
  have LL := L0
  obtain ⟨S, e0, e4, e15, e16, q49, q51, q52, q53, q59, q62, q70, q72, q73, qm, qo, qw⟩ := L0
  obtain ⟨x, o⟩ := O
  obtain ⟨y, p⟩ := P
  refine ⟨⟨LL.setup x y rfl, by rw [x.f 0 rfl, y.f 0 rfl]; exact e0, by rw [x.f 4 rfl, y.f 4 rfl]; exact e4, by rw [o, p, e15], by rw [x.f 16 rfl, y.f 16 rfl]; exact e16, q49.fr x y rfl, q51.fr x y rfl, q52.fr x y rfl, q53.fr x y rfl, q59.fr x y rfl, q62.fr x y rfl, q70.fr x y rfl, q72.fr x y rfl, q73.fr x y rfl, fun t t1 t2 t3 => ?_, fun t k t1 t2 t3 t4 t5 => ?_, fun i t1 t2 t3 => ?_⟩, fun i t1 t2 => ?_⟩
  · rw [x.k 32 t rfl] at t3
    rw [x.k 69 t rfl, y.k 69 t rfl]
    exact qm t t1 t2 t3
  · rw [x.k 32 t rfl] at t3
    rw [x.k 63 _ rfl, y.k 63 _ rfl]
    exact qo t k t1 t2 t3 t4 t5
  · rw [x.f 4 rfl] at t2
    rw [x.k 53 i rfl] at t3
    rw [x.k 54 i rfl, y.k 54 i rfl]
    exact qw i t1 t2 t3
  · rw [x.f 4 rfl] at t2
    exact (C i t1 t2).fr x y rfl
theorem LE.fn {h g h' g' : Hp} {c x0 st : Int} (L : LEx h g c) (b_c : 0 ≤ c ∧ c ≤ 4) (hc : c < rd 31 4 h) (O : FnP h c x0 st h') (P : FnP g c x0 st g') : LE h' g' := by
  obtain ⟨L0, C, Cc⟩ := L
  have LL := L0
  obtain ⟨S, e0, e4, e15, e16, q49, q51, q52, q53, q59, q62, q70, q72, q73, qm, qo, qw⟩ := L0
  obtain ⟨h1, x, o52, O⟩ := O
  obtain ⟨g1, y, p52, P⟩ := P
  have ep : rd 52 c g = rd 52 c h := q52 c b_c.1 (by omega)
  have e59 : rd 59 c g = rd 59 c h := q59 c b_c.1 (by omega)
  have e53 : rd 53 c g = rd 53 c h := q53 c b_c.1 (by omega)
  have L1 : LE0 h1 g1 := by
    refine ⟨LL.setup x y rfl, by rw [x.f 0 rfl, y.f 0 rfl]; exact e0, by rw [x.f 4 rfl, y.f 4 rfl]; exact e4, by rw [x.f 15 rfl, y.f 15 rfl]; exact e15, by rw [x.f 16 rfl, y.f 16 rfl]; exact e16, q49.fr x y rfl, q51.fr x y rfl, q52.up o52 p52 rfl (by rw [ep]), q53.fr x y rfl, q59.fr x y rfl, q62.fr x y rfl, q70.fr x y rfl, q72.fr x y rfl, q73.fr x y rfl, fun t t1 t2 t3 => ?_, fun t k t1 t2 t3 t4 t5 => ?_, fun i t1 t2 t3 => ?_⟩
    · rw [x.k 32 t rfl] at t3
      rw [x.k 69 t rfl, y.k 69 t rfl]
      exact qm t t1 t2 t3
    · rw [x.k 32 t rfl] at t3
      rw [x.k 63 _ rfl, y.k 63 _ rfl]
      exact qo t k t1 t2 t3 t4 t5
    · rw [x.f 4 rfl] at t2
      rw [x.k 53 i rfl] at t3
      rw [x.k 54 i rfl, y.k 54 i rfl]
      exact qw i t1 t2 t3
  have C1 : ∀ i, 0 ≤ i → i < rd 31 4 h1 → LEc h1 g1 i 2 5 := fun i t1 t2 => by
    rw [x.f 4 rfl] at t2
    unfold LEc
    rw [o52 i t1, x.k 51 i rfl, x.k 35 i rfl, x.k 36 _ rfl, x.k 32 _ rfl, x.k 57 i rfl, y.k 57 i rfl, x.k 58 i rfl, y.k 58 i rfl]
    by_cases e : i = c
    · rw [if_pos e]
      subst e
      exact fun z => ⟨fun z1 z2 => (Cc z).1 z1 (by omega), fun z1 z2 => (Cc z).2 z1 (by omega)⟩
    · rw [if_neg e]
      exact C i t1 t2 e
  rw [e59, e53, ep, LL.sts_eq] at P
  rcases O with ⟨o1, O⟩ | ⟨o1, rfl⟩
  · rcases P with ⟨p1, P⟩ | ⟨p1, -⟩
    · exact LE.ov L1 (fun i t1 t2 _ => C1 i t1 t2) b_c O P
    · exact absurd o1 p1
  · rcases P with ⟨p1, -⟩ | ⟨p1, rfl⟩
    · exact absurd p1 o1
    · exact ⟨L1, C1⟩
