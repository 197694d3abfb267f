
set_option maxRecDepth 20000
/-! THE CLASS LISTS THE KEYS -/
theorem len11 {h : Hp} {t : Nat} (ht : t < 6) : fl_len h (11 + 24 * t) = 32 := by
  have c : t = 0 ∨ t = 1 ∨ t = 2 ∨ t = 3 ∨ t = 4 ∨ t = 5 := by omega
  rcases c with rfl | rfl | rfl | rfl | rfl | rfl <;> rfl
theorem k_q {q s : Nat} (hq : q < 8) (hs : s < 4) : (Int32.ofInt 4) * Int32.ofNat q + Int32.ofNat s = Int32.ofNat (4 * q + s) := ofN (N := 4) (by decide) (by omega) (by omega)
theorem zN : Int32.ofInt 0 = Int32.ofNat 0 := by decide
theorem ll_ri {d t s a b ro : Nat} {fr rr : Int32} {r : Option Value × Hp × Nat} (t6 : t < 6) (s4 : s < 4) (hro : 13 + 24 * t + 4 * s ≤ ro ∧ ro ≤ 14 + 24 * t + 4 * s) : ∀ (l : List Nat) (k A : Nat) {h : Hp} {card : Int32}, SW t s a b h.2 → chn (h.1 (15 + 24 * t + 4 * s)) card l → k + l.length ≤ 8 → A + l.length ≤ 32 → Ev d 94 (23, [some (.ref (12 + 24 * t + 4 * s)), some (.ref ro), some (.int (Int32.ofNat s)), some (.ref (11 + 24 * t)), some (.int fr), some (.int (Int32.ofNat A)), some (.int rr), some (.int card), some (.int (Int32.ofNat k))], [], h, fl_tot) r →
    ∃ (h' : Hp) (card' k' : Int32), Ev d 94 (74, [some (.ref (12 + 24 * t + 4 * s)), some (.ref ro), some (.int (Int32.ofNat s)), some (.ref (11 + 24 * t)), some (.int fr), some (.int (Int32.ofNat (A + l.length))), some (.int rr), some (.int card'), some (.int k')], [], h', fl_tot) r ∧ LFR t A h h' ∧ WRL (h'.1 (11 + 24 * t)) A (l.map fun q => 4 * q + s)
  | [], k, A, h, card, w, c, hk, hA, e => by
    have c : card = Int32.ofInt (-1) := c
    rcases yl_ri w t6 s4 hro e with ⟨-, e⟩ | ⟨-, -, e⟩ | ⟨-, z, -⟩ | ⟨-, z, -⟩
    · exact ⟨h, card, _, e, LFR.refl t A h, trivial⟩
    · exact ⟨h, card, _, e, LFR.refl t A h, trivial⟩
    · exact absurd (by rw [c]; exact m1i) z
    · exact absurd (by rw [c]; exact m1i) z
  | q :: l, k, A, h, card, w, c, hk, hA, e => by
    obtain ⟨c1, c2, c3⟩ := chn_c.mp c
    rw [List.length_cons] at hk hA
    subst c1
    have E := yl_ri w t6 s4 hro e
    rw [len11 t6, i32n (n := 32) (by decide), i32n (n := A) (by omega), i32n (n := k) (by omega), i32n (n := q) (by omega), o32c (n := A) (by omega), o32 (n := A) (by omega), o32 (n := k) (by omega), k_q c2 s4, an7 c2] at E
    rcases E with ⟨z, -⟩ | ⟨-, z, -⟩ | ⟨-, -, z, -⟩ | ⟨-, -, -, e⟩
    · exfalso; omega
    · exfalso; omega
    · exfalso; omega
    · obtain ⟨h1, eh⟩ : ∃ z, z = fl_setI h (11 + 24 * t) A (Int32.ofNat (4 * q + s)) := ⟨_, rfl⟩
      rw [← eh] at e
      have F1 : LFR t A h h1 := by rw [eh]; exact LFR.set (Nat.le_refl A)
      have c4 : chn (h1.1 (15 + 24 * t + 4 * s)) (h.1 (15 + 24 * t + 4 * s) q) l := by rw [F1.c (by omega)]; exact c3
      obtain ⟨h', card', k', e', F2, W⟩ := ll_ri t6 s4 hro l (k + 1) (A + 1) (by rw [F1.2]; exact w) c4 (by omega) (by omega) e
      refine ⟨h', card', k', ?_, LFR.trans (Nat.le_succ A) F1 F2, ?_⟩
      · rw [List.length_cons, show A + (l.length + 1) = A + 1 + l.length by omega]; exact e'
      · rw [List.map_cons]
        exact WRL_c.mpr ⟨by rw [F2.1 (11 + 24 * t) A (by omega), eh, setI_at], W⟩
theorem ll_rr {d t s a b ro : Nat} {fr : Int32} {P : Nat → Nat → Prop} {st : Nat → Int} {r : Option Value × Hp × Nat} (t6 : t < 6) (s4 : s < 4) (hro : 13 + 24 * t + 4 * s ≤ ro ∧ ro ≤ 14 + 24 * t + 4 * s) : ∀ (n w0 A : Nat) {h : Hp} {o7 o8 : Option Value} {Q : List Nat}, SW t s a b h.2 → RWL (h.1 (15 + 24 * t + 4 * s)) (h.1 ro) P st w0 n Q → w0 + n = 8 → A + Q.length ≤ 32 → Ev d 94 (7, [some (.ref (12 + 24 * t + 4 * s)), some (.ref ro), some (.int (Int32.ofNat s)), some (.ref (11 + 24 * t)), some (.int fr), some (.int (Int32.ofNat A)), some (.int (Int32.ofNat w0)), o7, o8], [], h, fl_tot) r →
    ∃ h' : Hp, r = (some (.int (Int32.ofNat (A + Q.length))), h', fl_tot) ∧ LFR t A h h' ∧ WRL (h'.1 (11 + 24 * t)) A (Q.map fun q => 4 * q + s)
  | 0, w0, A, h, o7, o8, Q, w, R, hn, hA, e => by
    have R : Q = [] := R
    subst R
    rcases yl_rr w t6 s4 hro e with ⟨-, e⟩ | ⟨z, -⟩
    · exact ⟨h, e, LFR.refl t A h, trivial⟩
    · rw [i32n (by omega)] at z
      exfalso; omega
  | n + 1, w0, A, h, o7, o8, Q, w, R, hn, hA, e => by
    obtain ⟨l, Q', R1, R2, rfl⟩ := R
    rw [List.length_append] at hA
    rcases yl_rr w t6 s4 hro e with ⟨z, -⟩ | ⟨-, e⟩
    · rw [i32n (by omega)] at z
      exfalso; omega
    · rw [o32c (n := w0) (by omega), zN] at e
      have l8 := R1.len
      obtain ⟨h1, card', k', e1, F1, W1⟩ := ll_ri t6 s4 hro l 0 A w R1.1 (by omega) (by omega) e
      have e1 := yl_rn (by rw [F1.2]; exact w) t6 s4 hro e1
      rw [o32 (n := w0) (by omega)] at e1
      obtain ⟨h2, w2, F2, W2⟩ := ll_rr t6 s4 hro n (w0 + 1) (A + l.length) (by rw [F1.2]; exact w) (by rw [F1.c (by omega), F1.c (by omega)]; exact R2) (by omega) (by omega) e1
      refine ⟨h2, ?_, LFR.trans (Nat.le_add_right A l.length) F1 F2, ?_⟩
      · rw [w2, List.length_append, Nat.add_assoc]
      · rw [List.map_append]
        refine WRL.app (WRL.fr (fun j z1 z2 => F2.1 _ j (by rw [List.length_map] at z2; omega)) W1) (by rw [List.length_map]; exact W2)
theorem ll_st {d t s A : Nat} {h hm : Hp} {Q : List Nat} {r : Option Value × Hp × Nat} (t6 : t < 6) (s4 : s < 4) (w : STL h hm t s Q) (hA : A + Q.length ≤ 32) (e : Ev d 93 (0, [some (.ref (12 + 24 * t + 4 * s)), some (.int (Int32.ofNat s)), some (.ref (11 + 24 * t)), some (.int (Int32.ofNat A)), none], [], h, fl_tot) r) : ∃ h' : Hp, r = (some (.int (Int32.ofNat (A + Q.length))), h', fl_tot) ∧ LFR t A h h' ∧ WRL (h'.1 (11 + 24 * t)) A (Q.map fun q => 4 * q + s) := by
  obtain ⟨a, b, Qa, Qb, ab, sw, Ra, Rb, rfl⟩ := w
  unfold AB at ab
  rw [List.length_append] at hA
  have e := yl_l0 sw t6 s4 e
  obtain ⟨d3, v3, h3, n3, z3, ec3, e⟩ := b_call (m2 := 94) (k := 4) (nL := 9) (as := [.ref (12 + 24 * t + 4 * s), .ref a, .int (Int32.ofNat s), .ref (11 + 24 * t), .int (Int32.ofNat A)]) (rest := []) (L := [some (.ref (12 + 24 * t + 4 * s)), some (.ref a), some (.int (Int32.ofNat s)), some (.ref (11 + 24 * t)), some (.int (Int32.ofNat A)), none, none, none, none]) e (show fl_code 93 8 = some (18, [((94 : Nat) : Int), ((4 : Nat) : Int)], 11) by decide +kernel) rfl (by decide +kernel) rfl rfl rfl
  have ec3 := yl_r0 sw t6 s4 (by omega) ec3
  rw [zN] at ec3
  obtain ⟨h1, w1, F1, W1⟩ := ll_rr t6 s4 (by omega) 8 0 A sw Ra (by omega) (by omega) ec3
  obtain ⟨wa, wb, wc⟩ := tri w1
  rw [wa, wb, wc] at e
  have e : Ev d 93 (11, [some (.ref (12 + 24 * t + 4 * s)), some (.int (Int32.ofNat s)), some (.ref (11 + 24 * t)), some (.int (Int32.ofNat A)), none], [.int (Int32.ofNat (A + Qa.length))], h1, fl_tot) r := e
  have sw1 : SW t s a b h1.2 := by rw [F1.2]; exact sw
  have e := yl_l1 sw1 t6 s4 e
  obtain ⟨d4, v4, h4, n4, z4, ec4, e⟩ := b_call (m2 := 94) (k := 4) (nL := 9) (as := [.ref (12 + 24 * t + 4 * s), .ref b, .int (Int32.ofNat s), .ref (11 + 24 * t), .int (Int32.ofNat (A + Qa.length))]) (rest := []) (L := [some (.ref (12 + 24 * t + 4 * s)), some (.ref b), some (.int (Int32.ofNat s)), some (.ref (11 + 24 * t)), some (.int (Int32.ofNat (A + Qa.length))), none, none, none, none]) e (show fl_code 93 22 = some (18, [((94 : Nat) : Int), ((4 : Nat) : Int)], 25) by decide +kernel) rfl (by decide +kernel) rfl rfl rfl
  have ec4 := yl_r0 sw1 t6 s4 (by omega) ec4
  rw [zN] at ec4
  obtain ⟨h2, w2, F2, W2⟩ := ll_rr t6 s4 (by omega) 8 0 (A + Qa.length) sw1 (by rw [F1.c (by omega), F1.c (by omega)]; exact Rb) (by omega) (by omega) ec4
  obtain ⟨wa, wb, wc⟩ := tri w2
  rw [wa, wb, wc] at e
  have e : Ev d 93 (25, [some (.ref (12 + 24 * t + 4 * s)), some (.int (Int32.ofNat s)), some (.ref (11 + 24 * t)), some (.int (Int32.ofNat A)), some (.int (Int32.ofNat (A + Qa.length)))], [.int (Int32.ofNat (A + Qa.length + Qb.length))], h2, fl_tot) r := e
  refine ⟨h2, ?_, LFR.trans (Nat.le_add_right A Qa.length) F1 F2, ?_⟩
  · rw [yl_l2 (by rw [F2.2]; exact sw1) t6 s4 e, List.length_append, Nat.add_assoc]
  · rw [List.map_append]
    exact WRL.app (WRL.fr (fun j z1 z2 => F2.1 _ j (by rw [List.length_map] at z2; omega)) W1) (by rw [List.length_map]; exact W2)
theorem ll_tr {d t : Nat} {hm : Hp} {r : Option Value × Hp × Nat} (t6 : t < 6) : ∀ (n s A : Nat) {h : Hp} {L : List Nat}, SH h.2 → TRL h hm t s n L → s + n = 4 → A + L.length ≤ 32 → Ev d 92 (11, [some (.ref (4 + 24 * t)), some (.int (Int32.ofNat A)), some (.int (Int32.ofNat s))], [], h, fl_tot) r → ∃ h' : Hp, r = (none, h', fl_tot) ∧ LFR t A h h' ∧ WRL (h'.1 (11 + 24 * t)) A L
  | 0, s, A, h, L, S, w, hs, hA, e => by
    have w : L = [] := w
    subst w
    rcases yl_ks S t6 e with ⟨-, e⟩ | ⟨z, -⟩
    · exact ⟨h, e, LFR.refl t A h, trivial⟩
    · rw [i32n (by omega)] at z
      exfalso; omega
  | n + 1, s, A, h, L, S, w, hs, hA, e => by
    obtain ⟨Q, L', w1, w2, rfl⟩ := w
    rw [List.length_append, List.length_map] at hA
    rcases yl_ks S t6 e with ⟨z, -⟩ | ⟨-, -, -, e⟩
    · rw [i32n (by omega)] at z
      exfalso; omega
    · rw [o32c (n := s) (by omega)] at e
      obtain ⟨d3, v3, h3, n3, z3, ec3, e⟩ := b_call (m2 := 93) (k := 3) (nL := 5) (as := [.ref (12 + 24 * t + 4 * s), .int (Int32.ofNat s), .ref (11 + 24 * t), .int (Int32.ofNat A)]) (rest := []) (L := [some (.ref (12 + 24 * t + 4 * s)), some (.int (Int32.ofNat s)), some (.ref (11 + 24 * t)), some (.int (Int32.ofNat A)), none]) e (show fl_code 92 28 = some (18, [((93 : Nat) : Int), ((3 : Nat) : Int)], 31) by decide +kernel) rfl (by decide +kernel) rfl rfl rfl
      obtain ⟨h1, q1, F1, W1⟩ := ll_st t6 (by omega) w1 (by omega) ec3
      obtain ⟨wa, wb, wc⟩ := tri q1
      rw [wa, wb, wc] at e
      have e : Ev d 92 (31, [some (.ref (4 + 24 * t)), some (.int (Int32.ofNat A)), some (.int (Int32.ofNat s))], [.int (Int32.ofNat (A + Q.length))], h1, fl_tot) r := e
      have S1 : SH h1.2 := by rw [F1.2]; exact S
      have e := yl_k1 S1 t6 e
      rw [o32 (n := s) (by omega)] at e
      obtain ⟨h2, q2, F2, W2⟩ := ll_tr t6 n (s + 1) (A + Q.length) S1 (TRL.fr F1 (by omega) w2) (by omega) (by omega) e
      exact ⟨h2, q2, LFR.trans (Nat.le_add_right A Q.length) F1 F2, WRL.app (WRL.fr (fun j z1 z2 => F2.1 _ j (by rw [List.length_map] at z2; omega)) W1) (by rw [List.length_map]; exact W2)⟩
/-! keys that are had, by number -/
def HKL (f : Nat → Bool) : Nat → Nat → List Nat
  | _, 0 => []
  | k, n + 1 => if f k = true then k :: HKL f (k + 1) n else HKL f (k + 1) n
theorem HKL_s {f : Nat → Bool} {k n : Nat} : HKL f k (n + 1) = if f k = true then k :: HKL f (k + 1) n else HKL f (k + 1) n := rfl
theorem HKL.le (f : Nat → Bool) : ∀ n k : Nat, (HKL f k n).length ≤ n
  | 0, k => Nat.le_refl 0
  | n + 1, k => by
    have := HKL.le f n (k + 1)
    rw [HKL_s]
    split
    · rw [List.length_cons]; omega
    · omega
theorem HKL.mem {f : Nat → Bool} {v : Nat} : ∀ {n k : Nat}, v ∈ HKL f k n → k ≤ v ∧ v < k + n ∧ f v = true
  | 0, k, h => by cases h
  | n + 1, k, h => by
    rw [HKL_s] at h
    split at h
    · rename_i hf
      rcases List.mem_cons.mp h with z | z
      · rw [z]; exact ⟨Nat.le_refl k, by omega, hf⟩
      · obtain ⟨z1, z2, z3⟩ := HKL.mem z
        exact ⟨by omega, by omega, z3⟩
    · obtain ⟨z1, z2, z3⟩ := HKL.mem h
      exact ⟨by omega, by omega, z3⟩
theorem HKL.eq {f g : Nat → Bool} : ∀ n k : Nat, (∀ j, k ≤ j → j < k + n → f j = g j) → HKL f k n = HKL g k n
  | 0, k, _ => rfl
  | n + 1, k, e => by
    rw [HKL_s, HKL_s, e k (Nat.le_refl k) (by omega), HKL.eq n (k + 1) (fun j z1 z2 => e j (by omega) (by omega))]
theorem HKL.sum {f : Nat → Bool} {F : Int → Int} : ∀ n k : Nat, (∀ j : Nat, k ≤ j → j < k + n → F j = if f j = true then 1 else 0) → ((HKL f k n).length : Int) + sumN k F = sumN (k + n) F
  | 0, k, _ => by
    show ((0 : Nat) : Int) + sumN k F = sumN k F
    omega
  | n + 1, k, e => by
    have ih := HKL.sum n (k + 1) (fun j z1 z2 => e j (by omega) (by omega))
    have e1 : sumN (k + 1) F = sumN k F + F k := rfl
    have e2 := e k (Nat.le_refl k) (by omega)
    rw [show k + (n + 1) = k + 1 + n by omega, ← ih, e1, e2, HKL_s]
    by_cases z : f k = true
    · rw [if_pos z, if_pos z, List.length_cons]
      omega
    · rw [if_neg z, if_neg z]
      omega
theorem ll_kh {d t : Nat} {x : Int32} {r : Option Value × Hp × Nat} (t6 : t < 6) : ∀ (n k A : Nat) {h : Hp}, SH h.2 → h.1 (5 + 24 * t) 1 = x → k + n = 32 → A ≤ k → Ev d 92 (43, [some (.ref (4 + 24 * t)), some (.int (Int32.ofNat A)), some (.int (Int32.ofNat k))], [], h, fl_tot) r → ∃ h' : Hp, r = (none, h', fl_tot) ∧ LFR t A h h' ∧ WRL (h'.1 (11 + 24 * t)) A (HKL (hb x) k n)
  | 0, k, A, h, S, hx, hk, hA, e => by
    rcases yl_kh S t6 e with ⟨-, e⟩ | ⟨z, -⟩ | ⟨z, -⟩
    · exact ⟨h, e, LFR.refl t A h, trivial⟩
    · rw [i32n (by omega)] at z
      exfalso; omega
    · rw [i32n (by omega)] at z
      exfalso; omega
  | n + 1, k, A, h, S, hx, hk, hA, e => by
    have E := yl_kh S t6 e
    rw [hx, o32 (n := A) (by omega), o32 (n := k) (by omega), an31 (k := A) (by omega), hb_iff0 (by omega), hb_iff (by omega)] at E
    rw [HKL_s]
    rcases E with ⟨z, -⟩ | ⟨-, z, e⟩ | ⟨-, z, e⟩
    · rw [i32n (by omega)] at z
      exfalso; omega
    · rw [if_neg (by rw [z]; decide)]
      exact ll_kh t6 n (k + 1) A S hx (by omega) (by omega) e
    · rw [if_pos z]
      obtain ⟨h1, eh⟩ : ∃ y, y = fl_setI h (11 + 24 * t) A (Int32.ofNat k) := ⟨_, rfl⟩
      rw [← eh] at e
      have F1 : LFR t A h h1 := by rw [eh]; exact LFR.set (Nat.le_refl A)
      obtain ⟨h', e', F2, W⟩ := ll_kh (x := x) t6 n (k + 1) (A + 1) (by rw [F1.2]; exact S) (by rw [F1.c (by omega)]; exact hx) (by omega) (by omega) e
      exact ⟨h', e', LFR.trans (Nat.le_succ A) F1 F2, WRL_c.mpr ⟨by rw [F2.1 (11 + 24 * t) A (by omega), eh, setI_at], W⟩⟩
