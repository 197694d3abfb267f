set_option maxRecDepth 20000
theorem stF_k2 {op a f c i : Int} (h : stF 2 op a f c i ≠ 3) : i ≠ 1 := fun e => by
  subst e
  apply h
  have hA : stA f 1 = 1 := by unfold stA; rw [if_neg (by omega)]
  unfold stF
  rw [hA]
  simp
theorem stF_k5 {op a f c i : Int} (h : stF 5 op a f c i ≠ 5) : i ≠ 4 := fun e => by
  subst e
  apply h
  have hA : stO f 4 = 4 := by unfold stO; rw [if_neg (by omega)]
  unfold stF
  rw [hA]
  simp
theorem stF_l5 {op a f c i : Int} (h : stF 5 op a f c i = 3) : i = 1 := by
  revert h
  unfold stF stO
  repeat' split
  all_goals omega
theorem stF_w2 {op a f c i : Int} (h0 : 0 ≤ i) (h : stF 2 op a f c i = 2) : 2 ≤ i := by
  revert h
  unfold stF stA
  repeat' split
  all_goals omega
theorem stF_w5 {op a f c i : Int} (h : stF 5 op a f c i = 2) : 5 ≤ i := by
  revert h
  unfold stF stO
  repeat' split
  all_goals omega
theorem stF_lk {k op a f c i : Int} (hc : 0 ≤ c ∧ c ≤ 4) (hi : 0 ≤ i) (hop : k = 1 → 0 ≤ op ∧ op ≤ 1) (ha : k = 0 → 0 ≤ a ∧ a ≤ 31) (h : stF k op a f c i = 3) : k = 2 ∨ k = 5 := by
  by_cases h2 : k = 2
  · exact Or.inl h2
  · by_cases h5 : k = 5
    · exact Or.inr h5
    · exfalso
      revert h
      unfold stF
      repeat' split
      all_goals omega
theorem LEc.down {Ks : List Nat} {fs : List Int} {h g h' g' : Hp} {c : Int} (e : LEc h g c 2 5) (x : Fq Ks fs h h') (y : Fq Ks fs g g') (hc : ([32, 35, 36, 51, 52, 57, 58].all fun K => !Ks.contains K) = true) (h2 : rd 32 (rd 36 (8 * c + rd 51 c h) h) h = 2 → rd 52 c h ≠ 1) (h5 : rd 32 (rd 36 (8 * c + rd 51 c h) h) h = 5 → rd 52 c h ≠ 4) : LEc h' g' c 1 4 := by
  simp only [List.all_cons, List.all_nil, Bool.and_eq_true, Bool.and_true] at hc
  obtain ⟨c1, c2, c3, c4, c5, c6, c7⟩ := hc
  unfold LEc at e ⊢
  rw [x.k 51 c (by simpa using c4), x.k 35 c (by simpa using c2), x.k 36 _ (by simpa using c3), x.k 32 _ (by simpa using c1), x.k 52 c (by simpa using c5), x.k 57 c (by simpa using c6), y.k 57 c (by simpa using c6), x.k 58 c (by simpa using c7), y.k 58 c (by simpa using c7)]
  exact fun z => ⟨fun z1 z2 => (e z).1 z1 (by have := h2 z1; omega), fun z1 z2 => (e z).2 z1 (by have := h5 z1; omega)⟩
/-- a step on both sides -/
theorem LE.st {h g h' g' : Hp} {c : Int} (L : LE h g) (b_c : 0 ≤ c ∧ c ≤ 4) (b_op : 0 ≤ rd 37 (8 * c + rd 51 c h) h ∧ rd 37 (8 * c + rd 51 c h) h ≤ 4) (b_t : 0 ≤ rd 36 (8 * c + rd 51 c h) h ∧ rd 36 (8 * c + rd 51 c h) h ≤ 5) (hc : c < rd 31 4 h) (hn : 0 ≤ rd 51 c h ∧ rd 51 c h ≤ 7) (hlt : rd 51 c h < rd 35 c h) (hp : 0 ≤ rd 52 c h) (A : actOK h (8 * c + rd 51 c h)) (hne : stS h (8 * c + rd 51 c h) c (rd 52 c h) ≠ 0)
    (O : StP h c (8 * c + rd 51 c h) (stS h (8 * c + rd 51 c h) c (rd 52 c h)) h') (P : StP g c (8 * c + rd 51 c h) (stS h (8 * c + rd 51 c h) c (rd 52 c h)) g') : LEx h' g' c := by
  obtain ⟨L0, C⟩ := L
  have LL := L0
  obtain ⟨S, e0, e4, e15, e16, q49, q51, q52, q53, q59, q62, q70, q72, q73, qm, qo, qw⟩ := L0
  have ep : rd 52 c g = rd 52 c h := q52 c b_c.1 (by omega)
  have en : rd 51 c g = rd 51 c h := q51 c b_c.1 (by omega)
  have Cc := C c b_c.1 hc hlt
  have hx2 : rd 32 (rd 36 (8 * c + rd 51 c h) h) h = 2 → stS h (8 * c + rd 51 c h) c (rd 52 c h) ≠ 3 → rd 52 c h ≠ 1 := fun z1 z2 => by
    unfold stS at z2
    rw [z1] at z2
    exact stF_k2 z2
  have hx5 : rd 32 (rd 36 (8 * c + rd 51 c h) h) h = 5 → stS h (8 * c + rd 51 c h) c (rd 52 c h) ≠ 5 → rd 52 c h ≠ 4 := fun z1 z2 => by
    unfold stS at z2
    rw [z1] at z2
    exact stF_k5 z2
  have hx3 : stS h (8 * c + rd 51 c h) c (rd 52 c h) = 3 → rd 32 (rd 36 (8 * c + rd 51 c h) h) h = 2 ∨ rd 32 (rd 36 (8 * c + rd 51 c h) h) h = 5 := fun z => stF_lk b_c hp (fun q => ⟨b_op.1, A.1 q⟩) (fun q => A.2 (Or.inl q)) z
  have hx35 : stS h (8 * c + rd 51 c h) c (rd 52 c h) = 3 → rd 32 (rd 36 (8 * c + rd 51 c h) h) h = 5 → rd 52 c h = 1 := fun z1 z2 => by
    unfold stS at z1
    rw [z2] at z1
    exact stF_l5 z1
  have hx22 : stS h (8 * c + rd 51 c h) c (rd 52 c h) = 2 → rd 32 (rd 36 (8 * c + rd 51 c h) h) h = 2 → 2 ≤ rd 52 c h := fun z1 z2 => by
    unfold stS at z1
    rw [z2] at z1
    exact stF_w2 hp z1
  have hx25 : stS h (8 * c + rd 51 c h) c (rd 52 c h) = 2 → rd 32 (rd 36 (8 * c + rd 51 c h) h) h = 5 → 5 ≤ rd 52 c h := fun z1 z2 => by
    unfold stS at z1
    rw [z2] at z1
    exact stF_w5 z1
  have hx45 : stS h (8 * c + rd 51 c h) c (rd 52 c h) = 4 ∨ stS h (8 * c + rd 51 c h) c (rd 52 c h) = 5 → rd 32 (rd 36 (8 * c + rd 51 c h) h) h = 5 := fun z => stF_4 b_c hp (fun q => ⟨b_op.1, A.1 q⟩) (fun q => A.2 (Or.inl q)) z
  have hr : stS h (8 * c + rd 51 c h) c (rd 52 c h) = 0 ∨ (1 ≤ stS h (8 * c + rd 51 c h) c (rd 52 c h) ∧ stS h (8 * c + rd 51 c h) c (rd 52 c h) ≤ 5) ∨ (100 ≤ stS h (8 * c + rd 51 c h) c (rd 52 c h) ∧ stS h (8 * c + rd 51 c h) c (rd 52 c h) ≤ 103) ∨ (200 ≤ stS h (8 * c + rd 51 c h) c (rd 52 c h) ∧ stS h (8 * c + rd 51 c h) c (rd 52 c h) ≤ 203) := stF_range (fun q => A.2 (Or.inl q)) (fun q => ⟨b_op.1, A.1 q⟩) b_c hp
  generalize stS h (8 * c + rd 51 c h) c (rd 52 c h) = st at *
  have A5 : rd 32 (rd 36 (8 * c + rd 51 c h) h) h = 5 → 0 ≤ rd 38 (8 * c + rd 51 c h) h ∧ rd 38 (8 * c + rd 51 c h) h ≤ 31 := fun z => A.2 (Or.inr (Or.inl z))
  have s36 : rd 36 (8 * c + rd 51 c h) g = rd 36 (8 * c + rd 51 c h) h := S 36 _ (by omega) (by omega)
  have s32 : ∀ i, rd 32 i g = rd 32 i h := fun i => S 32 i (by omega) (by omega)
  have s33 : ∀ i, rd 33 i g = rd 33 i h := fun i => S 33 i (by omega) (by omega)
  have s34 : ∀ i, rd 34 i g = rd 34 i h := fun i => S 34 i (by omega) (by omega)
  have s37 : rd 37 (8 * c + rd 51 c h) g = rd 37 (8 * c + rd 51 c h) h := S 37 _ (by omega) (by omega)
  have s38 : rd 38 (8 * c + rd 51 c h) g = rd 38 (8 * c + rd 51 c h) h := S 38 _ (by omega) (by omega)
  have s39 : rd 39 (8 * c + rd 51 c h) g = rd 39 (8 * c + rd 51 c h) h := S 39 _ (by omega) (by omega)
  -- taking and giving
  have own : ∀ v, st % 100 ≤ 3 → 0 ≤ st → st ≠ 3 → st ≠ 5 → OwnP h (8 * c + rd 51 c h) st v h' → OwnP g (8 * c + rd 51 c h) st v g' → LEx h' g' c := fun v z0 z1 z3 z5 O P => by
    obtain ⟨x, o⟩ := O
    obtain ⟨y, p⟩ := P
    refine ⟨⟨LL.setup x y rfl, by rw [x.f 0 rfl, y.f 0 rfl]; exact e0, by rw [x.f 4 rfl, y.f 4 rfl]; exact e4, by rw [x.f 15 rfl, y.f 15 rfl]; exact e15, by rw [x.f 16 rfl, y.f 16 rfl]; exact e16, q49.fr x y rfl, q51.fr x y rfl, q52.fr x y rfl, q53.fr x y rfl, q59.fr x y rfl, q62.up o p (by rw [s36]) (by rw [s36, s34, q62 (4 * rd 36 (8 * c + rd 51 c h) h + st % 100) (by omega) (by omega)]), q70.fr x y rfl, q72.fr x y rfl, q73.fr x y rfl, fun t t1 t2 t3 => ?_, fun t k t1 t2 t3 t4 t5 => ?_, fun i t1 t2 t3 => ?_⟩, fun i t1 t2 t3 => ?_, ?_⟩
    · rw [x.k 32 t rfl] at t3
      rw [x.k 69 t rfl, y.k 69 t rfl]
      exact qm t t1 t2 t3
    · rw [x.k 32 t rfl] at t3
      rw [x.k 63 _ rfl, y.k 63 _ rfl]
      exact qo t k t1 t2 t3 t4 t5
    · rw [x.f 4 rfl] at t2
      rw [x.k 53 i rfl] at t3
      rw [x.k 54 i rfl, y.k 54 i rfl]
      exact qw i t1 t2 t3
    · rw [x.f 4 rfl] at t2
      exact (C i t1 t2).fr x y rfl
    · exact (C c b_c.1 hc).down x y rfl (fun z => hx2 z z3) (fun z => hx5 z z5)
  rcases O with ⟨o1, O⟩ | ⟨o1, o2, O⟩ | ⟨o1, O⟩ | ⟨o1, O⟩ | ⟨o1, O⟩ | ⟨o1, O⟩ | ⟨o1, o2, o3, o4, o5, O⟩
  · rcases P with ⟨p1, P⟩ | ⟨p1, p2, P⟩ | ⟨p1, P⟩ | ⟨p1, P⟩ | ⟨p1, P⟩ | ⟨p1, P⟩ | ⟨p1, p2, p3, p4, p5, P⟩
    all_goals first | (exfalso; omega) | skip
    exact own (-1) (by omega) (by omega) (by omega) (by omega) O P
  · rcases P with ⟨p1, P⟩ | ⟨p1, p2, P⟩ | ⟨p1, P⟩ | ⟨p1, P⟩ | ⟨p1, P⟩ | ⟨p1, P⟩ | ⟨p1, p2, p3, p4, p5, P⟩
    all_goals first | (exfalso; omega) | skip
    exact own c (by omega) (by omega) (by omega) (by omega) O P
  · rcases P with ⟨p1, P⟩ | ⟨p1, p2, P⟩ | ⟨p1, P⟩ | ⟨p1, P⟩ | ⟨p1, P⟩ | ⟨p1, P⟩ | ⟨p1, p2, p3, p4, p5, P⟩
    all_goals first | (exfalso; omega) | skip
    have x := O.1
    have y := P.1
    refine ⟨⟨LL.setup x y rfl, by rw [x.f 0 rfl, y.f 0 rfl]; exact e0, by rw [x.f 4 rfl, y.f 4 rfl]; exact e4, by rw [x.f 15 rfl, y.f 15 rfl]; exact e15, by rw [x.f 16 rfl, y.f 16 rfl]; exact e16, q49.fr x y rfl, q51.fr x y rfl, q52.fr x y rfl, q53.fr x y rfl, q59.fr x y rfl, q62.fr x y rfl, q70.fr x y rfl, q72.fr x y rfl, q73.fr x y rfl, fun t t1 t2 t3 => ?_, fun t k t1 t2 t3 t4 t5 => ?_, fun i t1 t2 t3 => ?_⟩, fun i t1 t2 t3 => ?_, ?_⟩
    · rw [x.k 32 t rfl] at t3
      rw [x.k 69 t rfl, y.k 69 t rfl]
      exact qm t t1 t2 t3
    · rw [x.k 32 t rfl] at t3
      rw [x.k 63 _ rfl, y.k 63 _ rfl]
      exact qo t k t1 t2 t3 t4 t5
    · rw [x.f 4 rfl] at t2
      rw [x.k 53 i rfl] at t3
      rw [x.k 54 i rfl, y.k 54 i rfl]
      exact qw i t1 t2 t3
    · rw [x.f 4 rfl] at t2
      exact (C i t1 t2).fr x y rfl
    · exact (C c b_c.1 hc).down x y rfl (fun z => hx2 z (by omega)) (fun z => hx5 z (by omega))
  · rcases P with ⟨p1, P⟩ | ⟨p1, p2, P⟩ | ⟨p1, P⟩ | ⟨p1, P⟩ | ⟨p1, P⟩ | ⟨p1, P⟩ | ⟨p1, p2, p3, p4, p5, P⟩
    all_goals first | (exfalso; omega) | skip
    have hk := hx3 o1
    obtain ⟨x, o57, -, O⟩ := O
    obtain ⟨y, p57, -, P⟩ := P
    have i63 : rd 32 (rd 36 (8 * c + rd 51 c h) h) h = 5 → rd 63 (32 * rd 36 (8 * c + rd 51 c h) h + rd 38 (8 * c + rd 51 c h) h) g = rd 63 (32 * rd 36 (8 * c + rd 51 c h) h + rd 38 (8 * c + rd 51 c h) h) h := fun z => qo _ _ b_t.1 b_t.2 z (A5 z).1 (by have := A5 z; omega)
    have i72 : rd 32 (rd 36 (8 * c + rd 51 c h) h) h = 5 → rd 72 (32 * rd 36 (8 * c + rd 51 c h) h + rd 38 (8 * c + rd 51 c h) h) g = rd 72 (32 * rd 36 (8 * c + rd 51 c h) h + rd 38 (8 * c + rd 51 c h) h) h := fun z => q72 _ (by have := A5 z; omega) (by have := A5 z; omega)
    have i70 : rd 70 (rd 36 (8 * c + rd 51 c h) h) g = rd 70 (rd 36 (8 * c + rd 51 c h) h) h := q70 _ b_t.1 (by omega)
    have i69 : rd 32 (rd 36 (8 * c + rd 51 c h) h) h = 2 → rd 69 (rd 36 (8 * c + rd 51 c h) h) g = rd 69 (rd 36 (8 * c + rd 51 c h) h) h := fun z => qm _ b_t.1 b_t.2 z
    have eW : lookW g (8 * c + rd 51 c h) ↔ lookW h (8 * c + rd 51 c h) := by
      unfold lookW
      rw [s36, s32, s33, s37, s38, i70]
      rcases hk with z | z
      · rw [i69 z]
        constructor <;> intro w <;> omega
      · rw [i63 z, i72 z]
        constructor <;> intro w <;> omega
    have eS : lookS g (8 * c + rd 51 c h) ↔ lookS h (8 * c + rd 51 c h) := by
      unfold lookS
      rw [s36, s32, s38]
      rcases hk with z | z
      · constructor <;> intro w <;> omega
      · rw [i63 z]
    have eC : lookC g (8 * c + rd 51 c h) = lookC h (8 * c + rd 51 c h) := by
      unfold lookC
      rw [s36, s32, s37, i70]
      rcases hk with z | z
      · rw [i69 z]
      · rw [if_pos z, if_pos z]
    rw [eW, eS] at P
    have tail : EqR 52 5 h' g' → EqR 53 5 h' g' → EqR 59 5 h' g' → EqR 62 24 h' g' → (∀ i, 0 ≤ i → i < rd 31 4 h → rd 53 i h' ≠ 0 → rd 54 i g' = rd 54 i h') → (∀ i, 0 ≤ i → i ≠ c → rd 52 i h' = rd 52 i h) → (rd 32 (rd 36 (8 * c + rd 51 c h) h) h = 5 → rd 52 c h' ≤ 3) → LEx h' g' c := fun w52 w53 w59 w62 w54 wp wc => by
      refine ⟨⟨LL.setup x y rfl, by rw [x.f 0 rfl, y.f 0 rfl]; exact e0, by rw [x.f 4 rfl, y.f 4 rfl]; exact e4, by rw [x.f 15 rfl, y.f 15 rfl]; exact e15, by rw [x.f 16 rfl, y.f 16 rfl]; exact e16, q49.fr x y rfl, q51.fr x y rfl, w52, w53, w59, w62, q70.fr x y rfl, q72.fr x y rfl, q73.fr x y rfl, fun t t1 t2 t3 => ?_, fun t k t1 t2 t3 t4 t5 => ?_, fun i t1 t2 t3 => ?_⟩, fun i t1 t2 t3 => ?_, ?_⟩
      · rw [x.k 32 t rfl] at t3
        rw [x.k 69 t rfl, y.k 69 t rfl]
        exact qm t t1 t2 t3
      · rw [x.k 32 t rfl] at t3
        rw [x.k 63 _ rfl, y.k 63 _ rfl]
        exact qo t k t1 t2 t3 t4 t5
      · rw [x.f 4 rfl] at t2
        exact w54 i t1 t2 t3
      · rw [x.f 4 rfl] at t2
        unfold LEc
        rw [x.k 51 i rfl, x.k 35 i rfl, x.k 36 _ rfl, x.k 32 _ rfl, wp i t1 t3, o57 i t1, p57 i t1, if_neg t3, if_neg t3, x.k 58 i rfl, y.k 58 i rfl]
        exact C i t1 t2
      · unfold LEc
        rw [x.k 51 c rfl, x.k 35 c rfl, x.k 36 _ rfl, x.k 32 _ rfl, o57 c b_c.1, p57 c b_c.1, if_pos rfl, if_pos rfl]
        exact fun _ => ⟨fun _ _ => eC, fun z1 z2 => by have := wc z1; omega⟩
    rcases O with ⟨a1, a2, a53, a52, a54, a62, a59⟩ | ⟨a1, a2, a53, a52, a54, a62, a59⟩ | ⟨a1, a2, a53, a52, a54, a62, a59⟩
    · rcases P with ⟨d1, d2, d53, d52, d54, d62, d59⟩ | ⟨d1, d2, d53, d52, d54, d62, d59⟩ | ⟨d1, d2, d53, d52, d54, d62, d59⟩
      · refine tail (q52.up a52 d52 rfl rfl) (q53.up a53 d53 rfl rfl) (q59.sm a59 d59) (q62.up a62 d62 (by rw [s36]) (by rw [s36, q62 (4 * rd 36 (8 * c + rd 51 c h) h) (by omega) (by omega)])) (fun i t1 t2 t3 => ?_) (fun i t1 t2 => by rw [a52 i t1, if_neg t2]) (fun _ => by rw [a52 c b_c.1, if_pos rfl]; omega)
        rw [a54 i t1, d54 i t1, e15]
        by_cases e : i = c
        · rw [if_pos e, if_pos e]
        · rw [if_neg e, if_neg e]
          rw [a53 i t1, if_neg e] at t3
          exact qw i t1 t2 t3
      · exact absurd d2 a2
      · exact absurd a1 d1
    · rcases P with ⟨d1, d2, d53, d52, d54, d62, d59⟩ | ⟨d1, d2, d53, d52, d54, d62, d59⟩ | ⟨d1, d2, d53, d52, d54, d62, d59⟩
      · exact absurd a2 d2
      · refine tail (q52.up a52 d52 rfl rfl) (q53.sm a53 d53) (q59.up a59 d59 rfl rfl) (q62.sm a62 d62) (fun i t1 t2 t3 => ?_) (fun i t1 t2 => by rw [a52 i t1, if_neg t2]) (fun _ => by rw [a52 c b_c.1, if_pos rfl]; omega)
        rw [a54 i t1, d54 i t1]
        rw [a53 i t1] at t3
        exact qw i t1 t2 t3
      · exact absurd a2 d2
    · rcases P with ⟨d1, d2, d53, d52, d54, d62, d59⟩ | ⟨d1, d2, d53, d52, d54, d62, d59⟩ | ⟨d1, d2, d53, d52, d54, d62, d59⟩
      · exact absurd d1 a1
      · exact absurd d2 a2
      · refine tail (q52.sm a52 d52) (q53.sm a53 d53) (q59.sm a59 d59) (q62.sm a62 d62) (fun i t1 t2 t3 => ?_) (fun i t1 t2 => a52 i t1) (fun z => by rw [a52 c b_c.1]; have := hx35 o1 z; omega)
        rw [a54 i t1, d54 i t1]
        rw [a53 i t1] at t3
        exact qw i t1 t2 t3
  · rcases P with ⟨p1, P⟩ | ⟨p1, p2, P⟩ | ⟨p1, P⟩ | ⟨p1, P⟩ | ⟨p1, P⟩ | ⟨p1, P⟩ | ⟨p1, p2, p3, p4, p5, P⟩
    all_goals first | (exfalso; omega) | skip
    obtain ⟨h1, ⟨x1, -, -, -, o69, o70, o5, on5⟩, x2, o53⟩ := O
    obtain ⟨g1, ⟨y1, -, -, -, p69, p70, p5, pn5⟩, y2, p53⟩ := P
    have x : Fq [53, 56, 63, 64, 65, 66, 67, 68, 69, 70, 71, 72, 75, 76, 77] [42] h h' := (x1.wide rfl rfl).trans (x2.wide rfl rfl)
    have y : Fq [53, 56, 63, 64, 65, 66, 67, 68, 69, 70, 71, 72, 75, 76, 77] [42] g g' := (y1.wide rfl rfl).trans (y2.wide rfl rfl)
    have k57 : rd 32 (rd 36 (8 * c + rd 51 c h) h) h = 2 → rd 57 c g = rd 57 c h := fun z => Cc.1 z (hx22 o1 z)
    have k58 : rd 32 (rd 36 (8 * c + rd 51 c h) h) h = 5 → rd 58 c g = rd 58 c h := fun z => Cc.2 z (hx25 o1 z)
    have i69 : rd 32 (rd 36 (8 * c + rd 51 c h) h) h = 2 → rd 69 (rd 36 (8 * c + rd 51 c h) h) g = rd 69 (rd 36 (8 * c + rd 51 c h) h) h := fun z => qm _ b_t.1 b_t.2 z
    have i70 : rd 70 (rd 36 (8 * c + rd 51 c h) h) g = rd 70 (rd 36 (8 * c + rd 51 c h) h) h := q70 _ b_t.1 (by omega)
    have eM : rd 32 (rd 36 (8 * c + rd 51 c h) h) h = 2 → manyV g c (8 * c + rd 51 c h) = manyV h c (8 * c + rd 51 c h) := fun z => by
      unfold manyV
      rw [s36, s32, s37, k57 z, i69 z]
      rw [z]
      simp
    have eC : closV g c (8 * c + rd 51 c h) = closV h c (8 * c + rd 51 c h) := by
      unfold closV
      rw [s36, s32, s37, i70]
      by_cases z : rd 32 (rd 36 (8 * c + rd 51 c h) h) h = 2
      · rw [k57 z]
      · rw [if_neg (fun w => z w.1), if_neg (fun w => z w.1)]
    refine ⟨⟨LL.setup x y rfl, by rw [x.f 0 rfl, y.f 0 rfl]; exact e0, by rw [x.f 4 rfl, y.f 4 rfl]; exact e4, by rw [x.f 15 rfl, y.f 15 rfl]; exact e15, by rw [x.f 16 rfl, y.f 16 rfl]; exact e16, q49.fr x y rfl, q51.fr x y rfl, q52.fr x y rfl, fun i t1 t2 => ?_, q59.fr x y rfl, q62.fr x y rfl, (q70.up o70 p70 (by rw [s36]) eC).fr x2 y2 rfl, ?_, q73.fr x y rfl, fun t t1 t2 t3 => ?_, fun t k t1 t2 t3 t4 t5 => ?_, fun i t1 t2 t3 => ?_⟩, fun i t1 t2 t3 => ?_, ?_⟩
    · rw [o53 i t1, p53 i t1, e4, q53 i t1 t2, q51 i t1 t2, S 36 (8 * i + rd 51 i h) (by omega) (by omega), s36]
    · by_cases z : rd 32 (rd 36 (8 * c + rd 51 c h) h) h = 5
      · exact (q72.up (o5 z).1 (p5 (by rw [s36, s32]; exact z)).1 (by rw [s36, s38]) rfl).fr x2 y2 rfl
      · exact (q72.sm (on5 z).1 (pn5 (by rw [s36, s32]; exact z)).1).fr x2 y2 rfl
    · rw [x.k 32 t rfl] at t3
      rw [x2.k 69 t rfl, y2.k 69 t rfl, o69 t t1, p69 t t1, s36]
      by_cases e : t = rd 36 (8 * c + rd 51 c h) h
      · rw [if_pos e, if_pos e]
        exact eM (by rw [← e]; exact t3)
      · rw [if_neg e, if_neg e]
        exact qm t t1 t2 t3
    · rw [x.k 32 t rfl] at t3
      rw [x2.k 63 _ rfl, y2.k 63 _ rfl]
      by_cases z : rd 32 (rd 36 (8 * c + rd 51 c h) h) h = 5
      · have a5 := A5 z
        rw [(o5 z).2 (32 * t + k) (by omega), (p5 (by rw [s36, s32]; exact z)).2 (32 * t + k) (by omega), s36, s38, k58 z, qo _ _ b_t.1 b_t.2 z a5.1 (by omega)]
        by_cases e : 32 * t + k = 32 * rd 36 (8 * c + rd 51 c h) h + rd 38 (8 * c + rd 51 c h) h
        · rw [if_pos e, if_pos e]
        · rw [if_neg e, if_neg e]
          exact qo t k t1 t2 t3 t4 t5
      · have hne : t ≠ rd 36 (8 * c + rd 51 c h) h := fun e => z (by rw [← e]; exact t3)
        rw [(on5 z).2 (32 * t + k) (by omega) (by omega), (pn5 (by rw [s36, s32]; exact z)).2 (32 * t + k) (by omega) (by rw [s36]; omega)]
        exact qo t k t1 t2 t3 t4 t5
    · rw [x.f 4 rfl] at t2
      rw [x.k 54 i rfl, y.k 54 i rfl]
      refine qw i t1 t2 fun z => t3 ?_
      rw [o53 i t1, z]
      simp
    · rw [x.f 4 rfl] at t2
      exact (C i t1 t2).fr x y rfl
    · exact (C c b_c.1 hc).down x y rfl (fun z => hx2 z (by omega)) (fun z => hx5 z (by omega))
  · rcases P with ⟨p1, P⟩ | ⟨p1, p2, P⟩ | ⟨p1, P⟩ | ⟨p1, P⟩ | ⟨p1, P⟩ | ⟨p1, P⟩ | ⟨p1, p2, p3, p4, p5, P⟩
    all_goals first | (exfalso; omega) | skip
    obtain ⟨x, o72⟩ := O
    obtain ⟨y, p72⟩ := P
    refine ⟨⟨LL.setup x y rfl, by rw [x.f 0 rfl, y.f 0 rfl]; exact e0, by rw [x.f 4 rfl, y.f 4 rfl]; exact e4, by rw [x.f 15 rfl, y.f 15 rfl]; exact e15, by rw [x.f 16 rfl, y.f 16 rfl]; exact e16, q49.fr x y rfl, q51.fr x y rfl, q52.fr x y rfl, q53.fr x y rfl, q59.fr x y rfl, q62.fr x y rfl, q70.fr x y rfl, q72.up o72 p72 (by rw [s36, s38]) rfl, q73.fr x y rfl, fun t t1 t2 t3 => ?_, fun t k t1 t2 t3 t4 t5 => ?_, fun i t1 t2 t3 => ?_⟩, fun i t1 t2 t3 => ?_, ?_⟩
    · rw [x.k 32 t rfl] at t3
      rw [x.k 69 t rfl, y.k 69 t rfl]
      exact qm t t1 t2 t3
    · rw [x.k 32 t rfl] at t3
      rw [x.k 63 _ rfl, y.k 63 _ rfl]
      exact qo t k t1 t2 t3 t4 t5
    · rw [x.f 4 rfl] at t2
      rw [x.k 53 i rfl] at t3
      rw [x.k 54 i rfl, y.k 54 i rfl]
      exact qw i t1 t2 t3
    · rw [x.f 4 rfl] at t2
      exact (C i t1 t2).fr x y rfl
    · exact (C c b_c.1 hc).down x y rfl (fun z => hx2 z (by omega)) (fun z => hx5 z (by omega))
  · rcases P with ⟨p1, P⟩ | ⟨p1, p2, P⟩ | ⟨p1, P⟩ | ⟨p1, P⟩ | ⟨p1, P⟩ | ⟨p1, P⟩ | ⟨p1, p2, p3, p4, p5, P⟩
    all_goals first | (exfalso; omega) | skip
    have hk5 := hx45 (by omega)
    have a5 := A5 hk5
    obtain ⟨x, o58, o73⟩ := O
    obtain ⟨y, p58, p73⟩ := P
    have i73 : rd 73 (32 * rd 36 (8 * c + rd 51 c h) h + rd 38 (8 * c + rd 51 c h) h) g = rd 73 (32 * rd 36 (8 * c + rd 51 c h) h + rd 38 (8 * c + rd 51 c h) h) h := q73 _ (by omega) (by omega)
    refine ⟨⟨LL.setup x y rfl, by rw [x.f 0 rfl, y.f 0 rfl]; exact e0, by rw [x.f 4 rfl, y.f 4 rfl]; exact e4, by rw [x.f 15 rfl, y.f 15 rfl]; exact e15, by rw [x.f 16 rfl, y.f 16 rfl]; exact e16, q49.fr x y rfl, q51.fr x y rfl, q52.fr x y rfl, q53.fr x y rfl, q59.fr x y rfl, q62.fr x y rfl, q70.fr x y rfl, q72.fr x y rfl, q73.up o73 p73 (by rw [s36, s38]) (by rw [s36, s38, i73]), fun t t1 t2 t3 => ?_, fun t k t1 t2 t3 t4 t5 => ?_, fun i t1 t2 t3 => ?_⟩, fun i t1 t2 t3 => ?_, ?_⟩
    · rw [x.k 32 t rfl] at t3
      rw [x.k 69 t rfl, y.k 69 t rfl]
      exact qm t t1 t2 t3
    · rw [x.k 32 t rfl] at t3
      rw [x.k 63 _ rfl, y.k 63 _ rfl]
      exact qo t k t1 t2 t3 t4 t5
    · rw [x.f 4 rfl] at t2
      rw [x.k 53 i rfl] at t3
      rw [x.k 54 i rfl, y.k 54 i rfl]
      exact qw i t1 t2 t3
    · rw [x.f 4 rfl] at t2
      unfold LEc
      rw [x.k 51 i rfl, x.k 35 i rfl, x.k 36 _ rfl, x.k 32 _ rfl, x.k 52 i rfl, x.k 57 i rfl, y.k 57 i rfl, o58 i t1, p58 i t1, if_neg t3, if_neg t3]
      exact C i t1 t2
    · unfold LEc
      rw [x.k 51 c rfl, x.k 35 c rfl, x.k 36 _ rfl, x.k 32 _ rfl, x.k 52 c rfl, x.k 57 c rfl, y.k 57 c rfl, o58 c b_c.1, p58 c b_c.1, if_pos rfl, if_pos rfl, s36, s38, i73]
      exact fun z => ⟨fun z1 z2 => Cc.1 z1 (by have := hx2 z1 (by omega); omega), fun _ _ => rfl⟩
/-- a clerk's step on both sides -/
theorem LE.does {h g h' g' : Hp} (hT : TInv h) (I : RI h) {c : Int} (L : LE h g) (h0 : 0 ≤ c) (hc : c < rd 31 4 h) (hn : rd 51 c h < rd 35 c h) (D : DoesP h c h') (E : DoesP g c g') : LE h' g' := by
  have bd := BD.of hT
  have b4 := bd.1
  have b_c : 0 ≤ c ∧ c ≤ 4 := by omega
  have bn := bd.2.2.1 c h0 (by omega)
  have ba := bd.2.1 c h0 (by omega)
  have C1 := I.2.1 c h0 hc
  obtain ⟨r1, r2, r3, r4⟩ := C1.2.1 hn
  have A := (I.1 c _ h0 hc bn.1 hn).1
  obtain ⟨h1, B, D⟩ := D
  obtain ⟨g1, B', E⟩ := E
  have en : rd 51 c g = rd 51 c h := L.1.2.2.2.2.2.2.1 c h0 (by omega)
  rw [en] at E
  have L1 := LE.bg L b_c ⟨bn.1, by omega⟩ B B'
  have F1 : Fq [43, 44, 45, 47, 49] [16] h h1 := by
    rcases B with ⟨-, rfl⟩ | ⟨-, x, -⟩
    · exact Fq.refl _
    · exact x
  have k51 : rd 51 c h1 = rd 51 c h := F1.k 51 c rfl
  have k52 : rd 52 c h1 = rd 52 c h := F1.k 52 c rfl
  have k35 : rd 35 c h1 = rd 35 c h := F1.k 35 c rfl
  have e53 : rd 53 c g1 = rd 53 c h1 := L1.1.2.2.2.2.2.2.2.2.1 c h0 (by omega)
  have e52 : rd 52 c g1 = rd 52 c h1 := L1.1.2.2.2.2.2.2.2.1 c h0 (by omega)
  have e4 : rd 31 4 h1 = rd 31 4 h := F1.f 4 rfl
  rw [e53, e52, L1.1.sts_eq] at E
  rcases D with ⟨d1, h2, O, T⟩ | ⟨d1, h2, h3, St, Fn, T⟩
  · rcases E with ⟨e1, g2, P, T'⟩ | ⟨e1, -⟩
    · exact LE.tick (LE.ov L1.1 (fun i t1 t2 _ => L1.2 i t1 t2) b_c O P) T T'
    · exact absurd e1 d1
  · rcases E with ⟨e1, -⟩ | ⟨e1, g2, g3, St', Fn', T'⟩
    · exact absurd d1 e1
    · have A1 : actOK h1 (8 * c + rd 51 c h1) := by
        unfold actOK at A ⊢
        rw [k51, F1.k 36 _ rfl, F1.k 32 _ rfl, F1.k 37 _ rfl, F1.k 38 _ rfl]
        exact A
      rw [← k51] at St St' Fn Fn'
      have hst : stS h1 (8 * c + rd 51 c h1) c (rd 52 c h1) ≠ 0 := by
        rw [k51, k52, stS_fr F1 rfl]
        exact r4
      have b_op := rda_ok hT 37 40 0 4 rfl (i := 8 * c + rd 51 c h) (by omega) (by omega)
      have b_t := rda_ok hT 36 40 0 5 rfl (i := 8 * c + rd 51 c h) (by omega) (by omega)
      have L2 := LE.st L1 b_c (by rw [k51, F1.k 37 _ rfl]; exact b_op) (by rw [k51, F1.k 36 _ rfl]; exact b_t) (by omega) (by omega) (by omega) (by omega) A1 hst St St'
      have F2 := St.fr
      exact LE.tick (LE.fn L2 b_c (by rw [F2.f 4 rfl]; omega) Fn Fn') T T'
theorem LE.able {h g : Hp} (hT : TInv h) (I : RI h) {c : Int} (L : LE h g) (h0 : 0 ≤ c) (hc : c < rd 31 4 h) : ableV g c = ableV h c := by
  have bd := BD.of hT
  have b4 := bd.1
  have b_c : 0 ≤ c ∧ c ≤ 4 := by omega
  have bn := bd.2.2.1 c h0 (by omega)
  have ba := bd.2.1 c h0 (by omega)
  have A := I.ab hT h0 hc
  obtain ⟨L0, -⟩ := L
  have LL := L0
  obtain ⟨S, e0, e4, e15, e16, q49, q51, q52, q53, q59, q62, q70, q72, q73, qm, qo, qw⟩ := L0
  have en : rd 51 c g = rd 51 c h := q51 c h0 (by omega)
  have ep : rd 52 c g = rd 52 c h := q52 c h0 (by omega)
  have e53 : rd 53 c g = rd 53 c h := q53 c h0 (by omega)
  have s34 : ∀ i, rd 34 i g = rd 34 i h := fun i => S 34 i (by omega) (by omega)
  unfold ableV
  rw [en, S 35 c (by omega) (by omega), e53, S 40 (8 * c + rd 51 c h) (by omega) (by omega), e15, ep, LL.sts_eq, S 36 (8 * c + rd 51 c h) (by omega) (by omega), s34]
  by_cases z : rd 51 c h = rd 35 c h
  · rw [if_pos z, if_pos z]
  · by_cases w : rd 53 c h ≠ 0
    · rw [if_neg z, if_neg z, if_pos w, if_pos w, qw c h0 hc w]
    · rw [if_neg z, if_neg z, if_neg w, if_neg w]
      obtain ⟨a1, a2, a3, a4⟩ := A z
      have b_op := rda_ok hT 37 40 0 4 rfl (i := 8 * c + rd 51 c h) (by omega) (by omega)
      have b_t := rda_ok hT 36 40 0 5 rfl (i := 8 * c + rd 51 c h) (by omega) (by omega)
      have hr : stS h (8 * c + rd 51 c h) c (rd 52 c h) = 0 ∨ (1 ≤ stS h (8 * c + rd 51 c h) c (rd 52 c h) ∧ stS h (8 * c + rd 51 c h) c (rd 52 c h) ≤ 5) ∨ (100 ≤ stS h (8 * c + rd 51 c h) c (rd 52 c h) ∧ stS h (8 * c + rd 51 c h) c (rd 52 c h) ≤ 103) ∨ (200 ≤ stS h (8 * c + rd 51 c h) c (rd 52 c h) ∧ stS h (8 * c + rd 51 c h) c (rd 52 c h) ≤ 203) := stF_range (fun q => a2.2 (Or.inl q)) (fun q => ⟨b_op.1, a2.1 q⟩) b_c (a4 (by omega))
      generalize stS h (8 * c + rd 51 c h) c (rd 52 c h) = st at *
      by_cases v : st < 100 ∨ 200 ≤ st ∨ rd 34 (rd 36 (8 * c + rd 51 c h) h) h = 1
      · rw [if_pos v, if_pos v]
      · rw [q62 (4 * rd 36 (8 * c + rd 51 c h) h + st + -100) (by omega) (by omega)]
theorem LE.cnt {h g : Hp} (hT : TInv h) (I : RI h) (L : LE h g) : cntA g 0 = cntA h 0 := by
  unfold cntA
  rw [L.1.2.2.1]
  refine sumN_eq fun i q1 q2 => ?_
  by_cases z : 0 ≤ (i : Int) ∧ (i : Int) < rd 31 4 h
  · rw [if_pos z, if_pos z, L.able hT I (by omega) z.2]
  · rw [if_neg z, if_neg z]
abbrev otKs : List Nat := [81, 82, 83, 84, 85, 86, 87, 88, 89, 90, 91, 92]
abbrev otFs : List Int := [13, 14, 56, 57, 60, 64, 68, 69, 74]
theorem LE.fr {h g h' g' : Hp} (L : LE h g) (x : Fq otKs otFs h h') (y : Fq otKs otFs g g') : LE h' g' := by
  obtain ⟨L0, C⟩ := L
  have LL := L0
  obtain ⟨S, e0, e4, e15, e16, q49, q51, q52, q53, q59, q62, q70, q72, q73, qm, qo, qw⟩ := L0
  refine ⟨⟨LL.setup x y rfl, by rw [x.f 0 rfl, y.f 0 rfl]; exact e0, by rw [x.f 4 rfl, y.f 4 rfl]; exact e4, by rw [x.f 15 rfl, y.f 15 rfl]; exact e15, by rw [x.f 16 rfl, y.f 16 rfl]; exact e16, q49.fr x y rfl, q51.fr x y rfl, q52.fr x y rfl, q53.fr x y rfl, q59.fr x y rfl, q62.fr x y rfl, q70.fr x y rfl, q72.fr x y rfl, q73.fr x y rfl, fun t t1 t2 t3 => ?_, fun t k t1 t2 t3 t4 t5 => ?_, fun i t1 t2 t3 => ?_⟩, fun i t1 t2 => ?_⟩
  · rw [x.k 32 t rfl] at t3
    rw [x.k 69 t rfl, y.k 69 t rfl]
    exact qm t t1 t2 t3
  · rw [x.k 32 t rfl] at t3
    rw [x.k 63 _ rfl, y.k 63 _ rfl]
    exact qo t k t1 t2 t3 t4 t5
  · rw [x.f 4 rfl] at t2
    rw [x.k 53 i rfl] at t3
    rw [x.k 54 i rfl, y.k 54 i rfl]
    exact qw i t1 t2 t3
  · rw [x.f 4 rfl] at t2
    exact (C i t1 t2).fr x y rfl
/-- what was prepared is the same -/
def SEq (b h : Hp) : Prop := (∀ K i, 32 ≤ K → K ≤ 42 → rd K i h = rd K i b) ∧ rd 31 0 h = rd 31 0 b ∧ rd 31 4 h = rd 31 4 b
theorem SEq.of {Ks : List Nat} {fs : List Int} {b h : Hp} (x : Fq Ks fs b h) (hc : (([32, 33, 34, 35, 36, 37, 38, 39, 40, 41, 42].all fun K => !Ks.contains K) && (!fs.contains 0 && !fs.contains 4)) = true) : SEq b h := by
  simp only [Bool.and_eq_true] at hc
  refine ⟨fun K i k1 k2 => ?_, x.f 0 (by simpa using hc.2.1), x.f 4 (by simpa using hc.2.2)⟩
  have hm : K ∈ [32, 33, 34, 35, 36, 37, 38, 39, 40, 41, 42] := by
    have : K = 32 ∨ K = 33 ∨ K = 34 ∨ K = 35 ∨ K = 36 ∨ K = 37 ∨ K = 38 ∨ K = 39 ∨ K = 40 ∨ K = 41 ∨ K = 42 := by omega
    rcases this with rfl | rfl | rfl | rfl | rfl | rfl | rfl | rfl | rfl | rfl | rfl <;> decide
  have h1 := List.all_eq_true.mp hc.1 K hm
  exact x.k K i (by
    simp only [Bool.and_eq_true, decide_eq_true_eq]
    exact ⟨⟨k1, by omega⟩, h1⟩)
theorem LE.begins {b h g x y : Hp} (hT : TInv h) (s1 : SEq b x) (s2 : SEq b y) (B : BgnP x h) (D : BgnP y g) : LE h g := by
  obtain ⟨F, b15, b16, -, b49, b51, b62, b63, b69⟩ := B
  obtain ⟨G, d15, d16, -, d49, d51, d62, d63, d69⟩ := D
  have S1 := SEq.of F rfl
  have S2 := SEq.of G rfl
  have S : ∀ K i, 32 ≤ K → K ≤ 42 → rd K i g = rd K i h := fun K i k1 k2 => by rw [S1.1 K i k1 k2, S2.1 K i k1 k2, s1.1 K i k1 k2, s2.1 K i k1 k2]
  refine ⟨⟨S, by rw [S1.2.1, S2.2.1, s1.2.1, s2.2.1], by rw [S1.2.2, S2.2.2, s1.2.2, s2.2.2], by rw [b15, d15], by rw [b16, d16], fun i t1 t2 => by rw [(b49 i t1 t2).1, (d49 i t1 t2).1], fun i t1 t2 => by rw [(b51 i t1 t2).1, (d51 i t1 t2).1], fun i t1 t2 => by rw [(b51 i t1 t2).2.1, (d51 i t1 t2).2.1], fun i t1 t2 => by rw [(b51 i t1 t2).2.2.1, (d51 i t1 t2).2.2.1], fun i t1 t2 => by rw [(b51 i t1 t2).2.2.2, (d51 i t1 t2).2.2.2], fun i t1 t2 => by rw [(b62 i t1 t2).1, (d62 i t1 t2).1], fun i t1 t2 => by rw [(b69 i t1 t2).2, (d69 i t1 t2).2], fun i t1 t2 => by rw [(b63 i t1 t2).2.2.1, (d63 i t1 t2).2.2.1], fun i t1 t2 => by rw [(b63 i t1 t2).2.2.2, (d63 i t1 t2).2.2.2, s1.1 42 i (by omega) (by omega), s2.1 42 i (by omega) (by omega)], fun t t1 t2 _ => by rw [(b69 t t1 (by omega)).1, (d69 t t1 (by omega)).1], fun t k t1 t2 _ t4 t5 => by rw [(b63 (32 * t + k) (by omega) (by omega)).1, (d63 (32 * t + k) (by omega) (by omega)).1], fun i t1 t2 t3 => ?_⟩, fun i t1 t2 => ?_⟩
  · have b4 : 0 ≤ rd 31 4 h ∧ rd 31 4 h ≤ 5 := rdt_ok hT 31 4
    exact absurd (b51 i t1 (by omega)).2.2.1 t3
  · have b4 : 0 ≤ rd 31 4 h ∧ rd 31 4 h ≤ 5 := rdt_ok hT 31 4
    have e := (b51 i t1 (by omega)).2.1
    unfold LEc
    rw [e]
    exact fun _ => ⟨fun _ z => by omega, fun _ z => by omega⟩
/-- a heap that a run comes to, the ch i-th of those able being chosen at step i -/
def Rea (b : Hp) (ch : Int → Int) : Nat → Hp → Prop
  | 0, h => TInv h ∧ RI h ∧ ∃ x h1, SEq b x ∧ BgnP x h1 ∧ TInv h1 ∧ Fq otKs otFs h1 h
  | s + 1, h => TInv h ∧ RI h ∧ ∃ h0 v h1, Rea b ch s h0 ∧ isNth h0 (ch s) v ∧ rd 51 v h0 < rd 35 v h0 ∧ DoesP h0 v h1 ∧ Fq otKs otFs h1 h
theorem Rea.inv {b h : Hp} {ch : Int → Int} : ∀ {s : Nat}, Rea b ch s h → TInv h ∧ RI h
  | 0, z => ⟨z.1, z.2.1⟩
  | _ + 1, z => ⟨z.1, z.2.1⟩
theorem Rea.fr {b h h' : Hp} {ch : Int → Int} (hT : TInv h') (x : Fq otKs otFs h h') : ∀ {s : Nat}, Rea b ch s h → Rea b ch s h'
  | 0, ⟨_, r2, y, h1, r3, r4, r5, r6⟩ => ⟨hT, r2.fr x rfl, y, h1, r3, r4, r5, r6.trans x⟩
  | _ + 1, ⟨_, r2, h0, v, h1, r3, r4, r5, r6, r7⟩ => ⟨hT, r2.fr x rfl, h0, v, h1, r3, r4, r5, r6, r7.trans x⟩
theorem Rea.congr {b : Hp} {ch ch' : Int → Int} : ∀ {s : Nat} {h : Hp}, (∀ i : Int, 0 ≤ i → i < s → ch i = ch' i) → Rea b ch s h → Rea b ch' s h
  | 0, _, _, z => z
  | s + 1, _, e, ⟨r1, r2, h0, v, h1, r3, r4, r5, r6, r7⟩ => ⟨r1, r2, h0, v, h1, Rea.congr (fun i q1 q2 => e i q1 (by omega)) r3, by rw [← e s (by omega) (by omega)]; exact r4, r5, r6, r7⟩
theorem Rea.le {b : Hp} {ch : Int → Int} : ∀ {s : Nat} {h g : Hp}, Rea b ch s h → Rea b ch s g → LE h g
  | 0, _, _, ⟨_, _, _, _, r3, r4, r5, r6⟩, ⟨_, _, _, _, q3, q4, _, q6⟩ => (LE.begins r5 r3 q3 r4 q4).fr r6 q6
  | s + 1, _, _, ⟨_, _, h0, v, h1, r3, r4, r5, r6, r7⟩, ⟨_, _, g0, w, g1, q3, q4, _, q6, q7⟩ => by
    have L := Rea.le r3 q3
    have i := r3.inv
    have e : v = w := isNth_eq i.1 L.1.2.2.1 (fun c c1 c2 => L.able i.1 i.2 c1 c2) r4 q4
    subst e
    exact (LE.does i.1 i.2 L r4.1 r4.2.1 r5 r6 q6).fr r7 q7
theorem Rea.cnt {b h g : Hp} {ch : Int → Int} {s : Nat} (x : Rea b ch s h) (y : Rea b ch s g) : cntA g 0 = cntA h 0 := LE.cnt x.inv.1 x.inv.2 (x.le y)
