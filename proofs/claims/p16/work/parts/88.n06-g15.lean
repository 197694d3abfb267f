
set_option maxRecDepth 20000
/-! CARDS IN THEIR ORDER, ON BOTH SIDES -/
theorem sum4n {hm : Hp} {t : Nat} {F : Int → Int} (hF : ∀ s q : Nat, s < 4 → q < 8 → F ((4 * q + s : Nat) : Int) = if kH hm t s q = 0 then 0 else 1) : ∀ n : Nat, n ≤ 8 → sumN (4 * n) F = ((nH hm t 0 n + nH hm t 1 n + nH hm t 2 n + nH hm t 3 n : Nat) : Int)
  | 0, _ => rfl
  | n + 1, hn => by
    have e : sumN (4 * (n + 1)) F = sumN (4 * n) F + F ((4 * n + 0 : Nat) : Int) + F ((4 * n + 1 : Nat) : Int) + F ((4 * n + 2 : Nat) : Int) + F ((4 * n + 3 : Nat) : Int) := rfl
    have c : ∀ s : Nat, s < 4 → ((nH hm t s (n + 1) : Nat) : Int) = (nH hm t s n : Nat) + F ((4 * n + s : Nat) : Int) := fun s hs => by
      rw [hF s n hs (by omega)]
      show ((nH hm t s n + (if kH hm t s n = 0 then 0 else 1) : Nat) : Int) = _
      by_cases z : kH hm t s n = 0
      · rw [if_pos z, if_pos z]; omega
      · rw [if_neg z, if_neg z]; omega
    have ih := sum4n hF n (by omega)
    have c0 := c 0 (by decide)
    have c1 := c 1 (by decide)
    have c2 := c 2 (by decide)
    have c3 := c 3 (by decide)
    rw [e, ih]
    omega
theorem list_m {g h hm : Hp} {st t : Nat} (G : GS g) (R : RR g h hm st) (I : RI hm) (ht : t < qt g) (k : (g.1 224 t).toInt = 0) : ∃ L : List Nat, (L.length : Int) = szV hm t ∧ (∀ v, v ∈ L → v < 32 ∧ (hm.1 255 (32 * t + v)).toInt ≠ 0) ∧
    (∀ (d : Nat) (r : Option Value × Hp × Nat), Ev d 92 (0, [some (.ref (4 + 24 * t)), none, none], [], h, fl_tot) r → ∃ h' : Hp, r = (none, h', fl_tot) ∧ LFR t 0 h h' ∧ WRL (h'.1 (11 + 24 * t)) 0 L) ∧
    ∀ (d i : Nat) (r : Option Value × Hp × Nat), i < L.length → Ev d 188 (0, [some (.ref 223), some (.int (Int32.ofNat t)), some (.int (Int32.ofNat i)), none, none], [], hm, fl_tot) r → ∃ v, nthL L i = some v ∧ r = (some (.int (Int32.ofNat v)), hm, fl_tot) := by
  obtain ⟨⟨X, M, S15, K, hT⟩, ⟨RT, ST⟩, RO⟩ := id R
  have S : SH h.2 := X.1
  have Sm : SH hm.2 := M.1
  have t6 : t < 6 := by have := G.1.1; omega
  have k1 : (h.1 (4 + 24 * t) 6).toInt = 0 := by rw [(X.2.2.1 t ht).1]; exact k
  have k2 : (hm.1 224 t).toInt = 0 := by rw [M.2.2.2 224 t (by omega) (by omega)]; exact k
  have k3 : rd 32 (t : Int) hm = 0 := by rw [xrd (by decide) (by decide)]; exact k2
  have A := (ST.2 t ht k).1
  obtain ⟨L, w⟩ := TRL.x A 4 0 (by omega)
  have hl : L.length = nHs hm t 0 4 := TRL.len A (by omega) w
  have c2 : rd 31 42 hm = (hm.1 223 42).toInt := xrd (K := 31) (by decide) (by decide) 42 hm
  have B42 : ∀ s q : Nat, s < 4 → q < 8 → kH hm t s q ≠ 0 → kS hm t s q ≤ (hm.1 223 42).toInt := fun s q hs hq hz => MP.st hT I.2.2.2.2.1 t6 hs hq k2 hz
  have b15 : 0 ≤ rd 31 15 hm ∧ rd 31 15 hm ≤ 600 := rdt_ok hT 31 15
  have b42 : 0 ≤ (hm.1 223 42).toInt ∧ (hm.1 223 42).toInt ≤ 95000 := by
    have := I.2.2.2.2.2
    omega
  have sz : szV hm t = sumN (4 * 8) (fun k => rd 63 (32 * (t : Int) + k) hm) := by
    unfold szV
    rw [k3, if_neg (by decide), if_neg (by decide)]
  have l8 : ∀ s, nH hm t s 8 ≤ 8 := fun s => nH_le hm t s 8
  have ls : nHs hm t 0 4 = nH hm t 0 8 + nH hm t 1 8 + nH hm t 2 8 + nH hm t 3 8 := by
    show nH hm t 0 8 + (nH hm t 1 8 + (nH hm t 2 8 + (nH hm t 3 8 + 0))) = _
    omega
  have l0 := l8 0
  have l1 := l8 1
  have l2 := l8 2
  have l3 := l8 3
  refine ⟨L, ?_, fun v hv => TRL.mem A (by omega) w hv, fun d r e => ?_, fun d i r hi e => ?_⟩
  · rw [sz, sum4n (hm := hm) (t := t) (fun s q hs hq => ?_) 8 (by omega), hl, ls]
    have b := TI.rng hT 63 192 0 1 (by decide +kernel) (by decide) (by decide) (i := 32 * t + (4 * q + s)) (by omega)
    have b : 0 ≤ kH hm t s q ∧ kH hm t s q ≤ 1 := b
    have ec : 32 * (t : Int) + ((4 * q + s : Nat) : Int) = ((32 * t + (4 * q + s) : Nat) : Int) := by omega
    show rd 63 (32 * (t : Int) + ((4 * q + s : Nat) : Int)) hm = _
    rw [ec, xrd (by decide) (by decide)]
    show kH hm t s q = _
    by_cases z : kH hm t s q = 0
    · rw [if_pos z, z]
    · rw [if_neg z]; omega
  · rcases yl_k0 S t6 e with ⟨z, -⟩ | ⟨-, e⟩
    · exact absurd k1 z
    · rw [zN] at e
      exact ll_tr t6 4 0 0 S w (by omega) (by omega) e
  · have it : (Int32.ofNat t).toNatClampNeg = t := o32c (by omega)
    have E := zl_k0 Sm e
    rw [it] at E
    rcases E with ⟨z, -⟩ | ⟨z, -⟩ | ⟨z, -⟩ | ⟨-, e⟩
    · exact absurd k2 z
    · exact absurd k2 z
    · exact absurd k2 z
    · obtain ⟨d3, v3, h3, n3, z3, ec3, e⟩ := b_call (m2 := 189) (k := 2) (nL := 10) (as := [.ref 223, .int (Int32.ofNat t), .int (Int32.ofNat i)]) (rest := []) (L := [some (.ref 223), some (.int (Int32.ofNat t)), some (.int (Int32.ofNat i)), none, none, none, none, none, none, none]) e (show fl_code 188 12 = some (18, [((189 : Nat) : Int), ((2 : Nat) : Int)], 15) by decide +kernel) rfl (by decide +kernel) rfl rfl rfl
      have ec3 := zl_m0 Sm ec3
      rw [zN] at ec3
      obtain ⟨v, w1, w2⟩ := zr_tr Sm t6 A B42 b42 4 0 i w (by omega) (by omega) hi ec3
      obtain ⟨wa, wb, wc⟩ := tri w2
      rw [wa, wb, wc] at e
      have e : Ev d 188 (15, [some (.ref 223), some (.int (Int32.ofNat t)), some (.int (Int32.ofNat i)), none, none], [.int (Int32.ofNat v)], hm, fl_tot) r := e
      exact ⟨v, w1, zl_k1 Sm e⟩
theorem list_k {g h hm : Hp} {st t : Nat} (G : GS g) (R : RR g h hm st) (ht : t < qt g) (k : (g.1 224 t).toInt = 4 ∨ (g.1 224 t).toInt = 5) : ∃ L : List Nat, (L.length : Int) = szV hm t ∧ (∀ v, v ∈ L → v < 32 ∧ (hm.1 255 (32 * t + v)).toInt ≠ 0) ∧
    (∀ (d : Nat) (r : Option Value × Hp × Nat), Ev d 92 (0, [some (.ref (4 + 24 * t)), none, none], [], h, fl_tot) r → ∃ h' : Hp, r = (none, h', fl_tot) ∧ LFR t 0 h h' ∧ WRL (h'.1 (11 + 24 * t)) 0 L) ∧
    ∀ (d i : Nat) (r : Option Value × Hp × Nat), i < L.length → Ev d 188 (0, [some (.ref 223), some (.int (Int32.ofNat t)), some (.int (Int32.ofNat i)), none, none], [], hm, fl_tot) r → ∃ v, nthL L i = some v ∧ r = (some (.int (Int32.ofNat v)), hm, fl_tot) := by
  obtain ⟨⟨X, M, S15, K, hT⟩, ⟨RT, ST⟩, RO⟩ := id R
  have S : SH h.2 := X.1
  have Sm : SH hm.2 := M.1
  have t6 : t < 6 := by have := G.1.1; omega
  have k1 : (h.1 (4 + 24 * t) 6).toInt ≠ 0 := by rw [(X.2.2.1 t ht).1]; omega
  have k2 : (hm.1 224 t).toInt = 4 ∨ (hm.1 224 t).toInt = 5 := by rw [M.2.2.2 224 t (by omega) (by omega)]; exact k
  have k3 : rd 32 (t : Int) hm = (hm.1 224 t).toInt := xrd (by decide) (by decide) t hm
  have tk : TRk h hm t := (RT t ht).1.1 (by omega)
  have eq : HKL (hb (h.1 (5 + 24 * t) 1)) 0 32 = HKL (fun j => decide ((hm.1 255 (32 * t + j)).toInt ≠ 0)) 0 32 := HKL.eq 32 0 (fun j _ hj => by
    have a := (tk j (by omega)).1
    show hb (h.1 (5 + 24 * t) 1) j = decide ((hm.1 255 (32 * t + j)).toInt ≠ 0)
    by_cases z : (hm.1 255 (32 * t + j)).toInt ≠ 0
    · rw [decide_eq_true z]; exact a.mpr z
    · rw [decide_eq_false z]
      cases e : hb (h.1 (5 + 24 * t) 1) j with
      | false => rfl
      | true => exact absurd (a.mp e) z)
  have sz : szV hm t = sumN (0 + 32) (fun k => rd 63 (32 * (t : Int) + k) hm) := by
    unfold szV
    rw [k3, if_neg (by omega), if_neg (by omega)]
  have le := HKL.le (fun j => decide ((hm.1 255 (32 * t + j)).toInt ≠ 0)) 32 0
  refine ⟨HKL (fun j => decide ((hm.1 255 (32 * t + j)).toInt ≠ 0)) 0 32, ?_, fun v hv => ?_, fun d r e => ?_, fun d i r hi e => ?_⟩
  · rw [sz, ← HKL.sum (f := fun j => decide ((hm.1 255 (32 * t + j)).toInt ≠ 0)) 32 0 (fun j _ hj => ?_)]
    · exact (Int.add_zero _).symm
    · have b := TI.rng hT 63 192 0 1 (by decide +kernel) (by decide) (by decide) (i := 32 * t + j) (by omega)
      have ec : 32 * (t : Int) + (j : Int) = ((32 * t + j : Nat) : Int) := by omega
      show rd 63 (32 * (t : Int) + (j : Int)) hm = if decide ((hm.1 255 (32 * t + j)).toInt ≠ 0) = true then 1 else 0
      rw [ec, xrd (by decide) (by decide)]
      have b : 0 ≤ (hm.1 255 (32 * t + j)).toInt ∧ (hm.1 255 (32 * t + j)).toInt ≤ 1 := b
      show (hm.1 255 (32 * t + j)).toInt = _
      by_cases z : (hm.1 255 (32 * t + j)).toInt ≠ 0
      · rw [if_pos (decide_eq_true z)]; omega
      · rw [if_neg (fun y => z (of_decide_eq_true y))]; omega
  · obtain ⟨z1, z2, z3⟩ := HKL.mem hv
    exact ⟨by omega, of_decide_eq_true z3⟩
  · rcases yl_k0 S t6 e with ⟨-, e⟩ | ⟨z, -⟩
    · rw [zN] at e
      obtain ⟨h', a1, a2, a3⟩ := ll_kh t6 32 0 0 S rfl (by omega) (by omega) e
      exact ⟨h', a1, a2, by rw [← eq]; exact a3⟩
    · exact absurd z k1
  · have it : (Int32.ofNat t).toNatClampNeg = t := o32c (by omega)
    have E := zl_k0 Sm e
    rw [it] at E
    have e : Ev d 188 (43, [some (.ref 223), some (.int (Int32.ofNat t)), some (.int (Int32.ofNat i)), some (.int (Int32.ofNat i)), some (.int (Int32.ofInt 0))], [], hm, fl_tot) r := by
      rcases E with ⟨-, -, e⟩ | ⟨-, -, -, e⟩ | ⟨-, z1, z2, -⟩ | ⟨z, -⟩
      · exact e
      · exact e
      · exfalso; omega
      · exfalso; omega
    rw [zN] at e
    exact zr_kh Sm t6 32 0 i (by omega) (by omega) hi e
/-- the cards of a tray: K their keys, V their values -/
def KVx (h : Hp) (t : Nat) (n : Int) (K V : Nat → Int32) : Prop := ∀ (d : Nat) (r : Option Value × Hp × Nat), Ev d 92 (0, [some (.ref (4 + 24 * t)), none, none], [], h, fl_tot) r → ∃ h' : Hp, r = (none, h', fl_tot) ∧ LFR t 0 h h' ∧ ∀ i : Nat, (i : Int) < n → (∀ (d : Nat) (r : Option Value × Hp × Nat), Ev d 95 (0, [some (.ref (4 + 24 * t)), some (.int (Int32.ofNat i))], [], h', fl_tot) r → r = (some (.int (K i)), h', fl_tot)) ∧ ∀ (d : Nat) (r : Option Value × Hp × Nat), Ev d 96 (0, [some (.ref (4 + 24 * t)), some (.int (Int32.ofNat i))], [], h', fl_tot) r → r = (some (.int (V i)), h', fl_tot)
def KVm (hm : Hp) (t : Nat) (n : Int) (K V : Nat → Int32) : Prop := ∀ i : Nat, (i : Int) < n → ∀ (d : Nat) (w : Int32) (r : Option Value × Hp × Nat), Ev d 187 (0, [some (.ref 223), some (.int (Int32.ofNat t)), some (.int (Int32.ofNat i)), some (.int w), none], [], hm, fl_tot) r → r = (some (.int (if w.toInt = 0 then K i else V i)), hm, fl_tot)
theorem kv_list {g h hm : Hp} {st t : Nat} {L : List Nat} (G : GS g) (R : RR g h hm st) (ht : t < qt g) (k : (g.1 224 t).toInt = 0 ∨ (g.1 224 t).toInt = 4 ∨ (g.1 224 t).toInt = 5) (l1 : (L.length : Int) = szV hm t) (l2 : ∀ v, v ∈ L → v < 32 ∧ (hm.1 255 (32 * t + v)).toInt ≠ 0)
    (l3 : ∀ (d : Nat) (r : Option Value × Hp × Nat), Ev d 92 (0, [some (.ref (4 + 24 * t)), none, none], [], h, fl_tot) r → ∃ h' : Hp, r = (none, h', fl_tot) ∧ LFR t 0 h h' ∧ WRL (h'.1 (11 + 24 * t)) 0 L)
    (l4 : ∀ (d i : Nat) (r : Option Value × Hp × Nat), i < L.length → Ev d 188 (0, [some (.ref 223), some (.int (Int32.ofNat t)), some (.int (Int32.ofNat i)), none, none], [], hm, fl_tot) r → ∃ v, nthL L i = some v ∧ r = (some (.int (Int32.ofNat v)), hm, fl_tot)) (l5 : L.length ≤ 32) (l6 : ∀ i, i < L.length → ∃ v, nthL L i = some v) : ∃ K V : Nat → Int32, KVx h t (szV hm t) K V ∧ KVm hm t (szV hm t) K V := by
  obtain ⟨⟨X, M, S15, K, hT⟩, ⟨RT, ST⟩, RO⟩ := id R
  have S : SH h.2 := X.1
  have Sm : SH hm.2 := M.1
  have t6 : t < 6 := by have := G.1.1; omega
  have kx : h.1 (4 + 24 * t) 6 = g.1 224 t := (X.2.2.1 t ht).1
  have km : hm.1 224 t = g.1 224 t := M.2.2.2 224 t (by omega) (by omega)
  have tk : TRk h hm t := (RT t ht).1.1 k
  have it : (Int32.ofNat t).toNatClampNeg = t := o32c (by omega)
  refine ⟨fun i => Int32.ofNat ((nthL L i).getD 0), fun i => hm.1 256 (32 * t + (nthL L i).getD 0), fun d r e => ?_, fun i hi d w r e => ?_⟩
  · obtain ⟨h', a1, a2, a3⟩ := l3 d r e
    have S' : SH h'.2 := by rw [a2.2]; exact S
    have k' : h'.1 (4 + 24 * t) 6 = g.1 224 t := by rw [a2.c (by omega)]; exact kx
    refine ⟨h', a1, a2, fun i hi => ⟨fun d r e => ?_, fun d r e => ?_⟩⟩
    · obtain ⟨v, ev⟩ := l6 i (by omega)
      have c := WRL.get a3 ev
      rw [Nat.zero_add] at c
      have E := yl_key S' t6 e
      rw [k', an31 (k := i) (by omega), c] at E
      show r = (some (.int (Int32.ofNat ((nthL L i).getD 0))), h', fl_tot)
      rw [ev]
      rcases E with ⟨z, -⟩ | ⟨-, z, -⟩ | ⟨-, -, -, w⟩ | ⟨-, -, z, -⟩
      · exfalso; omega
      · exfalso; omega
      · exact w
      · exfalso; omega
    · obtain ⟨v, ev⟩ := l6 i (by omega)
      have c := WRL.get a3 ev
      rw [Nat.zero_add] at c
      obtain ⟨v32, vz⟩ := l2 v (nthL_mem ev)
      have E := yl_val S' t6 e
      rw [k', an31 (k := i) (by omega), c, an31 v32, a2.c (r := 6 + 24 * t) (by omega), (tk v v32).2 vz] at E
      show r = (some (.int (hm.1 256 (32 * t + (nthL L i).getD 0))), h', fl_tot)
      rw [ev]
      rcases E with ⟨z, -⟩ | ⟨-, -, -, -, -, w⟩ | ⟨-, -, -, -, z, -⟩ | ⟨-, z, -⟩
      · exfalso; omega
      · exact w
      · exfalso; omega
      · exfalso; omega
  · have e := zl_o0 Sm e
    obtain ⟨d3, v3, h3, n3, z3, ec3, e⟩ := b_call (m2 := 188) (k := 2) (nL := 5) (as := [.ref 223, .int (Int32.ofNat t), .int (Int32.ofNat i)]) (rest := []) (L := [some (.ref 223), some (.int (Int32.ofNat t)), some (.int (Int32.ofNat i)), none, none]) e (show fl_code 187 3 = some (18, [((188 : Nat) : Int), ((2 : Nat) : Int)], 6) by decide +kernel) rfl (by decide +kernel) rfl rfl rfl
    obtain ⟨v, ev, w3⟩ := l4 _ i _ (by omega) ec3
    obtain ⟨wa, wb, wc⟩ := tri w3
    rw [wa, wb, wc] at e
    have e : Ev d 187 (6, [some (.ref 223), some (.int (Int32.ofNat t)), some (.int (Int32.ofNat i)), some (.int w), none], [.int (Int32.ofNat v)], hm, fl_tot) r := e
    obtain ⟨v32, vz⟩ := l2 v (nthL_mem ev)
    have ix : ((Int32.ofInt 32) * Int32.ofNat t + Int32.ofNat v).toNatClampNeg = 32 * t + v := i32k (by omega) (by omega)
    have E := zl_o1 Sm e
    rw [it, km, ix] at E
    show r = (some (.int (if w.toInt = 0 then Int32.ofNat ((nthL L i).getD 0) else hm.1 256 (32 * t + (nthL L i).getD 0))), hm, fl_tot)
    rw [ev]
    rcases E with ⟨-, -, z, -⟩ | ⟨z0, -, -, -, w⟩ | ⟨-, -, -, z, -⟩ | ⟨-, z, -⟩ | ⟨z0, w⟩
    · exfalso; omega
    · rw [if_neg z0]; exact w
    · exfalso; omega
    · exfalso; omega
    · rw [if_pos z0]; exact w
theorem nthL_lt : ∀ {L : List Nat} {i : Nat}, i < L.length → ∃ v, nthL L i = some v
  | [], i, h => absurd h (Nat.not_lt_zero i)
  | a :: L, 0, _ => ⟨a, rfl⟩
  | a :: L, i + 1, h => nthL_lt (L := L) (i := i) (by rw [List.length_cons] at h; omega)
theorem sumN_1 {F : Int → Int} : ∀ n : Nat, (∀ j : Nat, j < n → F j ≤ 1) → sumN n F ≤ n
  | 0, _ => Int.le_refl 0
  | n + 1, f => by
    have a := sumN_1 n (fun j hj => f j (by omega))
    have b := f n (by omega)
    show sumN n F + F n ≤ ((n + 1 : Nat) : Int)
    omega
/-- the cards of a tray are alike -/
theorem kv_both {g h hm : Hp} {st t : Nat} (G : GS g) (R : RR g h hm st) (I : RI hm) (ht : t < qt g) : ∃ K V : Nat → Int32, KVx h t (szV hm t) K V ∧ KVm hm t (szV hm t) K V := by
  obtain ⟨⟨X, M, S15, K, hT⟩, ⟨RT, ST⟩, RO⟩ := id R
  have S : SH h.2 := X.1
  have Sm : SH hm.2 := M.1
  have t6 : t < 6 := by have := G.1.1; omega
  have kx : h.1 (4 + 24 * t) 6 = g.1 224 t := (X.2.2.1 t ht).1
  have km : hm.1 224 t = g.1 224 t := M.2.2.2 224 t (by omega) (by omega)
  have k2 : rd 32 (t : Int) hm = (g.1 224 t).toInt := by rw [← km]; exact xrd (by decide) (by decide) t hm
  have k3 : rd 69 (t : Int) hm = (hm.1 261 t).toInt := xrd (by decide) (by decide) t hm
  have b40 := TI.rng hT 69 6 0 40 (by decide +kernel) (by decide) (by decide) (i := t) t6
  have b40 : 0 ≤ (hm.1 261 t).toInt ∧ (hm.1 261 t).toInt ≤ 40 := b40
  have it : (Int32.ofNat t).toNatClampNeg = t := o32c (by omega)
  have kb := (G.2.1 t ht)
  have s32 : (g.1 224 t).toInt = 0 ∨ (g.1 224 t).toInt = 4 ∨ (g.1 224 t).toInt = 5 → szV hm t ≤ 32 := fun k => by
    unfold szV
    rw [k2, if_neg (by omega), if_neg (by omega)]
    refine sumN_1 32 (fun j hj => ?_)
    have b := TI.rng hT 63 192 0 1 (by decide +kernel) (by decide) (by decide) (i := 32 * t + j) (by omega)
    have ec : 32 * (t : Int) + (j : Int) = ((32 * t + j : Nat) : Int) := by omega
    show rd 63 (32 * (t : Int) + (j : Int)) hm ≤ 1
    rw [ec, xrd (by decide) (by decide)]
    exact b.2
  obtain ⟨⟨t1, t2, t3, t4⟩, -⟩ := RT t ht
  -- the class lists the keys, whether they are asked for or not
  have ls : (g.1 224 t).toInt ≠ 0 → ∀ (d : Nat) (r : Option Value × Hp × Nat), Ev d 92 (0, [some (.ref (4 + 24 * t)), none, none], [], h, fl_tot) r → ∃ h' : Hp, r = (none, h', fl_tot) ∧ LFR t 0 h h' := fun k d r e => by
    rcases yl_k0 S t6 e with ⟨-, e⟩ | ⟨z, -⟩
    · rw [zN] at e
      obtain ⟨h', a1, a2, a3⟩ := ll_kh t6 32 0 0 S rfl (by omega) (by omega) e
      exact ⟨h', a1, a2⟩
    · rw [kx] at z
      exact absurd z k
  -- a kind whose keys are places
  have pl : ∀ (V : Nat → Int32), (g.1 224 t).toInt = 1 ∨ (g.1 224 t).toInt = 2 ∨ (g.1 224 t).toInt = 3 → (∀ h' : Hp, LFR t 0 h h' → ∀ i : Nat, (i : Int) < szV hm t → ∀ (d : Nat) (r : Option Value × Hp × Nat), Ev d 96 (0, [some (.ref (4 + 24 * t)), some (.int (Int32.ofNat i))], [], h', fl_tot) r → r = (some (.int (V i)), h', fl_tot)) →
      (∀ i : Nat, (i : Int) < szV hm t → ∀ (d : Nat) (w : Int32) (r : Option Value × Hp × Nat), w.toInt ≠ 0 → Ev d 187 (6, [some (.ref 223), some (.int (Int32.ofNat t)), some (.int (Int32.ofNat i)), some (.int w), none], [.int (Int32.ofNat i)], hm, fl_tot) r → r = (some (.int (V i)), hm, fl_tot)) → ∃ K V : Nat → Int32, KVx h t (szV hm t) K V ∧ KVm hm t (szV hm t) K V := fun V k vx vm => by
    refine ⟨fun i => Int32.ofNat i, V, fun d r e => ?_, fun i hi d w r e => ?_⟩
    · obtain ⟨h', a1, a2⟩ := ls (by omega) d r e
      have S' : SH h'.2 := by rw [a2.2]; exact S
      have k' : h'.1 (4 + 24 * t) 6 = g.1 224 t := by rw [a2.c (by omega)]; exact kx
      refine ⟨h', a1, a2, fun i hi => ⟨fun d r e => ?_, fun d r e => vx h' a2 i hi d r e⟩⟩
      have E := yl_key S' t6 e
      rw [k'] at E
      rcases E with ⟨-, w⟩ | ⟨-, -, w⟩ | ⟨z1, z2, z3, -⟩ | ⟨-, -, -, w⟩
      · exact w
      · exact w
      · exfalso; omega
      · exact w
    · have e := zl_o0 Sm e
      obtain ⟨d3, v3, h3, n3, z3, ec3, e⟩ := b_call (m2 := 188) (k := 2) (nL := 5) (as := [.ref 223, .int (Int32.ofNat t), .int (Int32.ofNat i)]) (rest := []) (L := [some (.ref 223), some (.int (Int32.ofNat t)), some (.int (Int32.ofNat i)), none, none]) e (show fl_code 187 3 = some (18, [((188 : Nat) : Int), ((2 : Nat) : Int)], 6) by decide +kernel) rfl (by decide +kernel) rfl rfl rfl
      have E := zl_k0 Sm ec3
      rw [it, km] at E
      have w3 : (v3, h3, n3) = (some (Value.int (Int32.ofNat i)), hm, fl_tot) := by
        rcases E with ⟨-, z, -⟩ | ⟨-, -, z, -⟩ | ⟨-, -, -, w⟩ | ⟨z, -⟩
        · exfalso; omega
        · exfalso; omega
        · exact w
        · exfalso; omega
      obtain ⟨wa, wb, wc⟩ := tri w3
      rw [wa, wb, wc] at e
      have e : Ev d 187 (6, [some (.ref 223), some (.int (Int32.ofNat t)), some (.int (Int32.ofNat i)), some (.int w), none], [.int (Int32.ofNat i)], hm, fl_tot) r := e
      by_cases z0 : w.toInt = 0
      · show r = (some (.int (if w.toInt = 0 then Int32.ofNat i else V i)), hm, fl_tot)
        rw [if_pos z0]
        rcases zl_o1 Sm e with ⟨z, -⟩ | ⟨z, -⟩ | ⟨z, -⟩ | ⟨z, -⟩ | ⟨-, w⟩
        · exact absurd z0 z
        · exact absurd z0 z
        · exact absurd z0 z
        · exact absurd z0 z
        · exact w
      · show r = (some (.int (if w.toInt = 0 then Int32.ofNat i else V i)), hm, fl_tot)
        rw [if_neg z0]
        exact vm i hi d w r z0 e
  by_cases k0 : (g.1 224 t).toInt = 0
  · obtain ⟨L, l1, l2, l3, l4⟩ := list_m G R I ht k0
    have := s32 (Or.inl k0)
    exact kv_list G R ht (Or.inl k0) l1 l2 l3 l4 (by omega) (fun i hi => nthL_lt hi)
  by_cases k45 : (g.1 224 t).toInt = 4 ∨ (g.1 224 t).toInt = 5
  · obtain ⟨L, l1, l2, l3, l4⟩ := list_k G R ht k45
    have := s32 (Or.inr k45)
    exact kv_list G R ht (Or.inr k45) l1 l2 l3 l4 (by omega) (fun i hi => nthL_lt hi)
  by_cases k3' : (g.1 224 t).toInt = 3
  · have sz : szV hm t = 4 := by
      unfold szV
      rw [k2, if_pos k3']
    refine pl (fun i => hm.1 263 (4 * t + i)) (Or.inr (Or.inr k3')) (fun h' a2 i hi d r e => ?_) (fun i hi d w r z0 e => ?_)
    · have S' : SH h'.2 := by rw [a2.2]; exact S
      have k' : h'.1 (4 + 24 * t) 6 = g.1 224 t := by rw [a2.c (by omega)]; exact kx
      have E := yl_val S' t6 e
      rw [k', an31 (k := i) (by omega), a2.c (r := 6 + 24 * t) (by omega), t3 k3' i (by omega)] at E
      rcases E with ⟨z, -⟩ | ⟨-, -, -, -, z, -⟩ | ⟨-, -, -, -, -, w⟩ | ⟨-, z, -⟩
      · exfalso; omega
      · exact absurd k3' z
      · exact w
      · exfalso; omega
    · have ix : ((Int32.ofInt 4) * Int32.ofNat t + Int32.ofNat i).toNatClampNeg = 4 * t + i := i4 (by omega) (by omega)
      have E := zl_o1 Sm e
      rw [it, km, ix] at E
      rcases E with ⟨-, z, -⟩ | ⟨-, z, -⟩ | ⟨-, z, -⟩ | ⟨-, -, w⟩ | ⟨z, -⟩
      · exact absurd k3' z
      · exact absurd k3' z
      · exact absurd k3' z
      · exact w
      · exact absurd z z0
  have k12 : (g.1 224 t).toInt = 1 ∨ (g.1 224 t).toInt = 2 := by omega
  have sz : szV hm t = (hm.1 261 t).toInt := by
    unfold szV
    rw [k2, if_neg k3', if_pos k12, k3]
  have tq := t2 k12
  refine pl (fun i => hm.1 260 (48 * t + i)) (by omega) (fun h' a2 i hi d r e => ?_) (fun i hi d w r z0 e => ?_)
  · have S' : SH h'.2 := by rw [a2.2]; exact S
    have k' : h'.1 (4 + 24 * t) 6 = g.1 224 t := by rw [a2.c (by omega)]; exact kx
    have E := yl_val S' t6 e
    have v := tq.2.1 i (by omega)
    unfold rg at v
    rw [k', a2.c (r := 6 + 24 * t) (by omega), a2.c (r := 5 + 24 * t) (by omega), v] at E
    rcases E with ⟨-, w⟩ | ⟨z1, z2, -⟩ | ⟨z1, z2, -⟩ | ⟨-, -, w⟩
    · exact w
    · exfalso; omega
    · exfalso; omega
    · exact w
  · have ix : ((Int32.ofInt 48) * Int32.ofNat t + Int32.ofNat i).toNatClampNeg = 48 * t + i := by rw [show Int32.ofInt 48 = Int32.ofInt ((48 : Nat) : Int) from rfl, ofN (N := 48) (by decide) (by omega) (by omega), o32c (by omega)]
    have E := zl_o1 Sm e
    rw [it, km, ix] at E
    rcases E with ⟨-, -, -, w⟩ | ⟨-, -, z1, z2, -⟩ | ⟨-, -, -, -, w⟩ | ⟨-, z, -⟩ | ⟨z, -⟩
    · exact w
    · exfalso; omega
    · exact w
    · exact absurd z k3'
    · exact absurd z z0
