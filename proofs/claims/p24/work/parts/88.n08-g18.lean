
set_option maxRecDepth 20000
/-! DIGEST ON BOTH SIDES -/
def dg (y : Int64) (v : Int32) : Int64 := ((Int64.ofInt 31) * y) + v.toInt64
theorem i8d {a b : Nat} (ha : a ≤ 8) (hb : b ≤ 1000) : ((Int32.ofInt 8) * Int32.ofNat a + Int32.ofNat b).toNatClampNeg = 8 * a + b := by rw [show Int32.ofInt 8 = Int32.ofInt ((8 : Nat) : Int) from rfl, ofN (N := 8) (by decide) ha hb, o32c (by omega)]
/-- the acts of clerk c from i on -/
def dA (hm : Hp) (c : Nat) : Nat → Nat → Int64 → Int64
  | _, 0, x => x
  | i, n + 1, x => dA hm c (i + 1) n (dg (dg (dg x (hm.1 239 (8 * c + i))) (hm.1 238 (8 * c + i))) (hm.1 240 (8 * c + i)))
theorem da_x {d c m : Nat} {h hm : Hp} {x0 : Int64} {r : Option Value × Hp × Nat} (S : SH h.2) (hc : c < 5) (em : (h.1 (148 + 12 * c) 3).toInt = m) (m8 : m ≤ 8) (cl : ∀ j : Nat, j < m → h.1 (152 + 12 * c + j) 15 = hm.1 239 (8 * c + j) ∧ h.1 (152 + 12 * c + j) 16 = hm.1 238 (8 * c + j) ∧ h.1 (152 + 12 * c + j) 12 = hm.1 240 (8 * c + j)) : ∀ (n i : Nat) {x : Int64}, i + n = m → Ev d 138 (5, [some (.ref (148 + 12 * c)), some (.long x0), none, some (.long x), none, some (.int (Int32.ofNat i))], [], h, fl_tot) r → r = (some (.long (dA hm c i n x)), h, fl_tot)
  | 0, i, x, hi, e => by
    rcases yd_a1 S hc e with ⟨-, w⟩ | ⟨z, -⟩ | ⟨z, -⟩
    · exact w
    · rw [i32n (by omega)] at z
      exfalso; omega
    · rw [i32n (by omega)] at z
      exfalso; omega
  | n + 1, i, x, hi, e => by
    obtain ⟨a1, a2, a3⟩ := cl i (by omega)
    have E := yd_a1 S hc e
    rw [o32c (n := i) (by omega), i32n (n := i) (by omega), o32 (n := i) (by omega), a1, a2, a3] at E
    rcases E with ⟨z, -⟩ | ⟨-, z, -⟩ | ⟨-, -, -, -, -, -, -, -, e⟩
    · exfalso; omega
    · exfalso; omega
    · exact da_x S hc em m8 cl n (i + 1) (by omega) e
theorem da_m {d c m : Nat} {hm : Hp} {r : Option Value × Hp × Nat} (S : SH hm.2) (hc : c < 5) (em : (hm.1 227 c).toInt = m) (m8 : m ≤ 8) : ∀ (n i : Nat) {x : Int64} {o5 : Option Value}, i + n = m → Ev d 212 (26, [some (.ref 223), some (.long x), none, some (.int (Int32.ofNat c)), some (.int (Int32.ofNat i)), o5], [], hm, fl_tot) r → ∃ o4, Ev d 212 (15, [some (.ref 223), some (.long (dA hm c i n x)), none, some (.int (Int32.ofNat (c + 1))), o4, o5], [], hm, fl_tot) r
  | 0, i, x, o5, hi, e => by
    have E := zd_i S e
    rw [o32c (n := c) (by omega), i32n (n := i) (by omega), o32 (n := c) (by omega)] at E
    rcases E with ⟨-, e⟩ | ⟨z, -⟩
    · exact ⟨_, e⟩
    · exfalso; omega
  | n + 1, i, x, o5, hi, e => by
    have E := zd_i S e
    rw [o32c (n := c) (by omega), i32n (n := i) (by omega), o32 (n := i) (by omega), i8d (by omega) (by omega)] at E
    rcases E with ⟨z, -⟩ | ⟨-, e⟩
    · exfalso; omega
    · exact da_m S hc em m8 n (i + 1) (by omega) e
/-- all clerks -/
theorem dc_st {g h hm : Hp} {st d d2 c : Nat} {x : Int64} {o4 o5 : Option Value} {r r2 : Option Value × Hp × Nat} (G : GS g) (R : RR g h hm st) (hn : c ≤ qc g) (e : Ev d 137 (15, [some (.ref 0), some (.long x), none, some (.int (Int32.ofNat c))], [], h, fl_tot) r) (e2 : Ev d2 212 (15, [some (.ref 223), some (.long x), none, some (.int (Int32.ofNat c)), o4, o5], [], hm, fl_tot) r2) :
    (qc g ≤ c ∧ Ev d 137 (46, [some (.ref 0), some (.long x), none, some (.int (Int32.ofNat c))], [], h, fl_tot) r ∧ Ev d2 212 (105, [some (.ref 223), some (.long x), none, some (.int (Int32.ofNat c)), o4, o5], [], hm, fl_tot) r2) ∨ (c < qc g ∧ ∃ (x' : Int64) (o4' : Option Value), Ev d 137 (15, [some (.ref 0), some (.long x'), none, some (.int (Int32.ofNat (c + 1)))], [], h, fl_tot) r ∧ Ev d2 212 (15, [some (.ref 223), some (.long x'), none, some (.int (Int32.ofNat (c + 1))), o4', o5], [], hm, fl_tot) r2) := by
  obtain ⟨⟨X, M, S15, K, hT⟩, RT, RO⟩ := id R
  have S : SH h.2 := X.1
  have Sm : SH hm.2 := M.1
  have q5 := G.1.2.2.1
  have k1 : (h.1 1 3).toInt = qc g := by rw [X.2.1.2]; exact G.1.2.2.2
  have k2 : (hm.1 223 4).toInt = qc g := by rw [M.2.2.1]; exact G.1.2.2.2
  have E := yd_c S e
  have E2 := zd_c Sm e2
  rw [k1, i32n (n := c) (by omega), o32c (n := c) (by omega)] at E
  rw [k2, i32n (n := c) (by omega)] at E2
  by_cases hc : c < qc g
  · skip
    have c5 : c < 5 := by omega
    rcases E with ⟨z, -⟩ | ⟨-, -, -, e⟩
    · exfalso; omega
    · rcases E2 with ⟨z, -⟩ | ⟨-, e2⟩
      · exfalso; omega
      · have gm := (G.2.2 c hc).1
        have m8 := (G.2.2 c hc).2.1
        have em : (h.1 (148 + 12 * c) 3).toInt = qm g c := by rw [(X.2.2.2.2.1 c hc).1]; exact gm
        have em2 : (hm.1 227 c).toInt = qm g c := by rw [M.2.2.2 227 c (by omega) (by omega)]; exact gm
        have cl : ∀ j : Nat, j < qm g c → h.1 (152 + 12 * c + j) 15 = hm.1 239 (8 * c + j) ∧ h.1 (152 + 12 * c + j) 16 = hm.1 238 (8 * c + j) ∧ h.1 (152 + 12 * c + j) 12 = hm.1 240 (8 * c + j) := fun j hj => by
          obtain ⟨i0, CK, -⟩ := RO c hc
          obtain ⟨o, w⟩ := CK.2.1 j hj
          exact ⟨o.1.1, o.1.2, w⟩
        obtain ⟨d3, v3, h3, n3, z3, ec3, e⟩ := b_call (m2 := 138) (k := 1) (nL := 6) (as := [.ref (148 + 12 * c), .long x]) (rest := []) (L := [some (.ref (148 + 12 * c)), some (.long x), none, none, none, none]) e (show fl_code 137 36 = some (18, [((138 : Nat) : Int), ((1 : Nat) : Int)], 39) by decide +kernel) rfl (by decide +kernel) rfl rfl rfl
        have ec3 := yd_a0 S c5 ec3
        rw [zN] at ec3
        obtain ⟨wa, wb, wc⟩ := tri (da_x S c5 em m8 cl (qm g c) 0 (by omega) ec3)
        rw [wa, wb, wc] at e
        have e : Ev d 137 (39, [some (.ref 0), some (.long x), none, some (.int (Int32.ofNat c))], [.long (dA hm c 0 (qm g c) x)], h, fl_tot) r := e
        have e := yd_c2 S e
        rw [o32 (n := c) (by omega)] at e
        rw [zN] at e2
        obtain ⟨o4', e2⟩ := da_m Sm c5 em2 m8 (qm g c) 0 (by omega) e2
        exact Or.inr ⟨hc, _, o4', e, e2⟩
  · rcases E with ⟨-, e⟩ | ⟨z, -⟩
    · rcases E2 with ⟨-, e2⟩ | ⟨z, -⟩
      · exact Or.inl ⟨by omega, e, e2⟩
      · exfalso; omega
    · exfalso; omega
theorem dc_both {g h hm : Hp} {st d d2 : Nat} {r r2 : Option Value × Hp × Nat} (G : GS g) (R : RR g h hm st) : ∀ (n c : Nat) {x : Int64} {o4 o5 : Option Value}, c + n = qc g → Ev d 137 (15, [some (.ref 0), some (.long x), none, some (.int (Int32.ofNat c))], [], h, fl_tot) r → Ev d2 212 (15, [some (.ref 223), some (.long x), none, some (.int (Int32.ofNat c)), o4, o5], [], hm, fl_tot) r2 →
    ∃ (x' : Int64) (k : Int32) (o4' o5' : Option Value), Ev d 137 (46, [some (.ref 0), some (.long x'), none, some (.int k)], [], h, fl_tot) r ∧ Ev d2 212 (105, [some (.ref 223), some (.long x'), none, some (.int k), o4', o5'], [], hm, fl_tot) r2
  | 0, c, x, o4, o5, hn, e, e2 => by
    rcases dc_st G R (by omega) e e2 with ⟨-, a, b⟩ | ⟨z, -⟩
    · exact ⟨_, _, _, _, a, b⟩
    · exact absurd z (by omega)
  | n + 1, c, x, o4, o5, hn, e, e2 => by
    rcases dc_st G R (by omega) e e2 with ⟨z, -⟩ | ⟨-, x', o4', a, b⟩
    · exact absurd z (by omega)
    · exact dc_both G R n (c + 1) (by omega) a b
/-- the cards of a tray from i on -/
def dK (K V : Nat → Int32) : Nat → Nat → Int64 → Int64
  | _, 0, x => x
  | i, n + 1, x => dK K V (i + 1) n (dg (dg x (K i)) (V i))
theorem dk_x {d t N : Nat} {h : Hp} {x0 : Int64} {nI : Int32} {K V : Nat → Int32} {r : Option Value × Hp × Nat} (S : SH h.2) (t6 : t < 6) (en : nI.toInt = N) (n40 : N ≤ 40) (kv : ∀ i : Nat, (i : Int) < (N : Int) → (∀ (d : Nat) (r : Option Value × Hp × Nat), Ev d 95 (0, [some (.ref (4 + 24 * t)), some (.int (Int32.ofNat i))], [], h, fl_tot) r → r = (some (.int (K i)), h, fl_tot)) ∧ ∀ (d : Nat) (r : Option Value × Hp × Nat), Ev d 96 (0, [some (.ref (4 + 24 * t)), some (.int (Int32.ofNat i))], [], h, fl_tot) r → r = (some (.int (V i)), h, fl_tot)) : ∀ (n i : Nat) {x : Int64}, i + n = N → Ev d 139 (22, [some (.ref (4 + 24 * t)), some (.long x0), none, some (.int nI), some (.long x), none, some (.int (Int32.ofNat i))], [], h, fl_tot) r → r = (some (.long (dK K V i n x)), h, fl_tot)
  | 0, i, x, hi, e => by
    rcases yd_b3 S t6 e with ⟨-, w⟩ | ⟨z, -⟩
    · exact w
    · rw [i32n (by omega)] at z
      exfalso; omega
  | n + 1, i, x, hi, e => by
    rcases yd_b3 S t6 e with ⟨z, -⟩ | ⟨-, e⟩
    · rw [i32n (by omega)] at z
      exfalso; omega
    · obtain ⟨k1, k2⟩ := kv i (by omega)
      obtain ⟨d3, v3, h3, n3, z3, ec3, e⟩ := b_call (m2 := 95) (k := 1) (nL := 2) (as := [.ref (4 + 24 * t), .int (Int32.ofNat i)]) (rest := [.long ((Int64.ofInt 31) * x)]) (L := [some (.ref (4 + 24 * t)), some (.int (Int32.ofNat i))]) e (show fl_code 139 37 = some (18, [((95 : Nat) : Int), ((1 : Nat) : Int)], 40) by decide +kernel) rfl (by decide +kernel) rfl rfl rfl
      obtain ⟨wa, wb, wc⟩ := tri (k1 _ _ ec3)
      rw [wa, wb, wc] at e
      have e : Ev d 139 (40, [some (.ref (4 + 24 * t)), some (.long x0), none, some (.int nI), some (.long x), none, some (.int (Int32.ofNat i))], [.int (K i), .long ((Int64.ofInt 31) * x)], h, fl_tot) r := e
      have e := yd_b4 S t6 e
      obtain ⟨d4, v4, h4, n4, z4, ec4, e⟩ := b_call (m2 := 96) (k := 1) (nL := 2) (as := [.ref (4 + 24 * t), .int (Int32.ofNat i)]) (rest := [.long ((Int64.ofInt 31) * (((Int64.ofInt 31) * x) + (K i).toInt64))]) (L := [some (.ref (4 + 24 * t)), some (.int (Int32.ofNat i))]) e (show fl_code 139 53 = some (18, [((96 : Nat) : Int), ((1 : Nat) : Int)], 56) by decide +kernel) rfl (by decide +kernel) rfl rfl rfl
      obtain ⟨wa, wb, wc⟩ := tri (k2 _ _ ec4)
      rw [wa, wb, wc] at e
      have e : Ev d 139 (56, [some (.ref (4 + 24 * t)), some (.long x0), none, some (.int nI), some (.long (((Int64.ofInt 31) * x) + (K i).toInt64)), none, some (.int (Int32.ofNat i))], [.int (V i), .long ((Int64.ofInt 31) * (((Int64.ofInt 31) * x) + (K i).toInt64))], h, fl_tot) r := e
      have e := yd_b5 S t6 e
      rw [o32 (n := i) (by omega)] at e
      exact dk_x S t6 en n40 kv n (i + 1) (by omega) e
theorem dk_m {d t N : Nat} {hm : Hp} {nI : Int32} {K V : Nat → Int32} {r : Option Value × Hp × Nat} (S : SH hm.2) (t6 : t < 6) (en : nI.toInt = N) (n40 : N ≤ 40) (km : KVm hm t N K V) : ∀ (n i : Nat) {x : Int64}, i + n = N → Ev d 212 (135, [some (.ref 223), some (.long x), none, some (.int (Int32.ofNat t)), some (.int nI), some (.int (Int32.ofNat i))], [], hm, fl_tot) r → ∃ o5, Ev d 212 (107, [some (.ref 223), some (.long (dK K V i n x)), none, some (.int (Int32.ofNat (t + 1))), some (.int nI), o5], [], hm, fl_tot) r
  | 0, i, x, hi, e => by
    have E := zd_j S e
    rw [i32n (n := i) (by omega), o32 (n := t) (by omega)] at E
    rcases E with ⟨-, e⟩ | ⟨z, -⟩
    · exact ⟨_, e⟩
    · exfalso; omega
  | n + 1, i, x, hi, e => by
    have E := zd_j S e
    rw [i32n (n := i) (by omega)] at E
    rcases E with ⟨z, -⟩ | ⟨-, e⟩
    · exfalso; omega
    · obtain ⟨d3, v3, h3, n3, z3, ec3, e⟩ := b_call (m2 := 187) (k := 3) (nL := 5) (as := [.ref 223, .int (Int32.ofNat t), .int (Int32.ofNat i), .int (Int32.ofInt 0)]) (rest := [.long ((Int64.ofInt 31) * x), .long (Int64.ofInt 31)]) (L := [some (.ref 223), some (.int (Int32.ofNat t)), some (.int (Int32.ofNat i)), some (.int (Int32.ofInt 0)), none]) e (show fl_code 212 155 = some (18, [((187 : Nat) : Int), ((3 : Nat) : Int)], 158) by decide +kernel) rfl (by decide +kernel) rfl rfl rfl
      have w := km i (by omega) _ _ _ ec3
      rw [if_pos i32_0] at w
      obtain ⟨wa, wb, wc⟩ := tri w
      rw [wa, wb, wc] at e
      have e : Ev d 212 (158, [some (.ref 223), some (.long x), none, some (.int (Int32.ofNat t)), some (.int nI), some (.int (Int32.ofNat i))], [.int (K i), .long ((Int64.ofInt 31) * x), .long (Int64.ofInt 31)], hm, fl_tot) r := e
      have e := zd_j1 S e
      obtain ⟨d4, v4, h4, n4, z4, ec4, e⟩ := b_call (m2 := 187) (k := 3) (nL := 5) (as := [.ref 223, .int (Int32.ofNat t), .int (Int32.ofNat i), .int (Int32.ofInt 1)]) (rest := [.long ((Int64.ofInt 31) * (((Int64.ofInt 31) * x) + (K i).toInt64))]) (L := [some (.ref 223), some (.int (Int32.ofNat t)), some (.int (Int32.ofNat i)), some (.int (Int32.ofInt 1)), none]) e (show fl_code 212 166 = some (18, [((187 : Nat) : Int), ((3 : Nat) : Int)], 169) by decide +kernel) rfl (by decide +kernel) rfl rfl rfl
      have w := km i (by omega) _ _ _ ec4
      rw [if_neg (by rw [i32_1]; decide)] at w
      obtain ⟨wa, wb, wc⟩ := tri w
      rw [wa, wb, wc] at e
      have e : Ev d 212 (169, [some (.ref 223), some (.long x), none, some (.int (Int32.ofNat t)), some (.int nI), some (.int (Int32.ofNat i))], [.int (V i), .long ((Int64.ofInt 31) * (((Int64.ofInt 31) * x) + (K i).toInt64))], hm, fl_tot) r := e
      have e := zd_j2 S e
      rw [o32 (n := i) (by omega)] at e
      exact dk_m S t6 en n40 km n (i + 1) (by omega) e
/-- all trays -/
theorem dt_st {g h hm : Hp} {st d d2 t : Nat} {x : Int64} {o4 o5 : Option Value} {r r2 : Option Value × Hp × Nat} (G : GS g) (I : RI hm) (R : RR g h hm st) (hn : t ≤ qt g) (e : Ev d 137 (48, [some (.ref 0), some (.long x), none, some (.int (Int32.ofNat t))], [], h, fl_tot) r) (e2 : Ev d2 212 (107, [some (.ref 223), some (.long x), none, some (.int (Int32.ofNat t)), o4, o5], [], hm, fl_tot) r2) :
    (qt g ≤ t ∧ r = (some (.long x), h, fl_tot) ∧ r2 = (some (.long x), hm, fl_tot)) ∨ (t < qt g ∧ ∃ (x' : Int64) (h' : Hp) (o4' o5' : Option Value), RR g h' hm st ∧ Ev d 137 (48, [some (.ref 0), some (.long x'), none, some (.int (Int32.ofNat (t + 1)))], [], h', fl_tot) r ∧ Ev d2 212 (107, [some (.ref 223), some (.long x'), none, some (.int (Int32.ofNat (t + 1))), o4', o5'], [], hm, fl_tot) r2) := by
  obtain ⟨⟨X, M, S15, K, hT⟩, RT, RO⟩ := id R
  have S : SH h.2 := X.1
  have Sm : SH hm.2 := M.1
  have q6 := G.1.1
  have k1 : (h.1 1 2).toInt = qt g := by rw [X.2.1.1]; exact G.1.2.1
  have k2 : (hm.1 223 0).toInt = qt g := by rw [M.2.1]; exact G.1.2.1
  have E := yd_t S e
  have E2 := zd_t Sm e2
  rw [k1, i32n (n := t) (by omega), o32c (n := t) (by omega)] at E
  rw [k2, i32n (n := t) (by omega)] at E2
  by_cases ht : t < qt g
  · skip
    have t6 : t < 6 := by omega
    rcases E with ⟨z, -⟩ | ⟨-, -, -, e⟩
    · exfalso; omega
    · rcases E2 with ⟨z, -⟩ | ⟨-, e2⟩
      · exfalso; omega
      · obtain ⟨K, V, kx, km⟩ := kv_both G R I ht
        have zb := szV_bd hT (t := (t : Int)) (by omega)
        obtain ⟨N, eN⟩ : ∃ N : Nat, szV hm t = (N : Int) := ⟨(szV hm t).toNat, by omega⟩
        rw [eN] at kx km zb
        -- the class's tray
        obtain ⟨d3, v3, h3, n3, z3, ec3, e⟩ := b_call (m2 := 139) (k := 1) (nL := 7) (as := [.ref (4 + 24 * t), .long x]) (rest := []) (L := [some (.ref (4 + 24 * t)), some (.long x), none, none, none, none, none]) e (show fl_code 137 69 = some (18, [((139 : Nat) : Int), ((1 : Nat) : Int)], 72) by decide +kernel) rfl (by decide +kernel) rfl rfl rfl
        have f := yd_b0 S t6 ec3
        obtain ⟨d4, v4, h4, n4, z4, ec4, f⟩ := b_call (m2 := 89) (k := 0) (nL := 1) (as := [.ref (4 + 24 * t)]) (rest := []) (L := [some (.ref (4 + 24 * t))]) f (show fl_code 139 1 = some (18, [((89 : Nat) : Int), ((0 : Nat) : Int)], 4) by decide +kernel) rfl (by decide +kernel) rfl rfl rfl
        obtain ⟨y, wy, ey⟩ := cards_both G R ht ec4
        rw [eN] at ey
        obtain ⟨wa, wb, wc⟩ := tri wy
        rw [wa, wb, wc] at f
        have f : Ev d3 139 (4, [some (.ref (4 + 24 * t)), some (.long x), none, none, none, none, none], [.int y], h, fl_tot) (v3, h3, n3) := f
        have f := yd_b1 S t6 f
        obtain ⟨d5, v5, h5, n5, z5, ec5, f⟩ := b_call (m2 := 92) (k := 0) (nL := 3) (as := [.ref (4 + 24 * t)]) (rest := []) (L := [some (.ref (4 + 24 * t)), none, none]) f (show fl_code 139 16 = some (18, [((92 : Nat) : Int), ((0 : Nat) : Int)], 19) by decide +kernel) rfl (by decide +kernel) rfl rfl rfl
        obtain ⟨h', w5, F, KV⟩ := kx _ _ ec5
        obtain ⟨wa, wb, wc⟩ := tri w5
        rw [wa, wb, wc] at f
        have f : Ev d3 139 (19, [some (.ref (4 + 24 * t)), some (.long x), none, some (.int y), some (.long (((Int64.ofInt 31) * x) + y.toInt64)), none, none], [], h', fl_tot) (v3, h3, n3) := f
        have S' : SH h'.2 := by rw [F.2]; exact S
        have f := yd_b2 S' t6 f
        rw [zN] at f
        obtain ⟨wa, wb, wc⟩ := tri (dk_x S' t6 ey (by omega) KV N 0 (by omega) f)
        rw [wa, wb, wc] at e
        have e : Ev d 137 (72, [some (.ref 0), some (.long x), none, some (.int (Int32.ofNat t))], [.long (dK K V 0 N (((Int64.ofInt 31) * x) + y.toInt64))], h', fl_tot) r := e
        have e := yd_t2 S' e
        rw [o32 (n := t) (by omega)] at e
        have R' : RR g h' hm st := RR.out3 G R S' Sm (fun r j hr z => F.1 r j (fun y => z (Or.inr (Or.inr (Or.inr (by omega)))))) (fun r j _ _ => by rw [F.2]) (fun r j _ _ _ => by rw [F.2]) (fun _ _ _ => rfl) hT
        -- the reference's
        obtain ⟨d6, v6, h6, n6, z6, ec6, e2⟩ := b_call (m2 := 185) (k := 1) (nL := 4) (as := [.ref 223, .int (Int32.ofNat t)]) (rest := []) (L := [some (.ref 223), some (.int (Int32.ofNat t)), none, none]) e2 (show fl_code 212 117 = some (18, [((185 : Nat) : Int), ((1 : Nat) : Int)], 120) by decide +kernel) rfl (by decide +kernel) rfl rfl rfl
        have cz := c_sizeOf hT (t := (t : Int)) (by omega) (d6 + 3) (by omega)
        have it : iv (t : Int) = .int (Int32.ofNat t) := by rw [ivc1, i32n (by omega)]
        have iy : iv (szV hm t) = .int y := by rw [ivc1, ey, eN]
        have cz : Ev (d6 + 3) 185 (0, [some (.ref 223), some (.int (Int32.ofNat t)), none, none], [], hm, fl_tot) (some (.int y), hm, fl_tot) := by
          rw [← iy]
          rw [show fl_enter 4 [rv 31, iv (t : Int)] = [some (.ref 223), some (.int (Int32.ofNat t)), none, none] from by rw [it]; rfl] at cz
          exact cz
        obtain ⟨wa, wb, wc⟩ := tri (ev_det ec6 cz)
        rw [wa, wb, wc] at e2
        have e2 : Ev d2 212 (120, [some (.ref 223), some (.long x), none, some (.int (Int32.ofNat t)), o4, o5], [.int y], hm, fl_tot) r2 := e2
        have e2 := zd_t1 Sm e2
        rw [zN] at e2
        obtain ⟨o5', e2⟩ := dk_m Sm t6 ey (by omega) km N 0 (by omega) e2
        exact Or.inr ⟨ht, _, h', _, o5', R', e, e2⟩
  · rcases E with ⟨-, w⟩ | ⟨z, -⟩
    · rcases E2 with ⟨-, w2⟩ | ⟨z, -⟩
      · exact Or.inl ⟨by omega, w, w2⟩
      · exfalso; omega
    · exfalso; omega
theorem dt_both {g hm : Hp} {st d d2 : Nat} {r r2 : Option Value × Hp × Nat} (G : GS g) (I : RI hm) : ∀ (n t : Nat) {h : Hp} {x : Int64} {o4 o5 : Option Value}, RR g h hm st → t + n = qt g → Ev d 137 (48, [some (.ref 0), some (.long x), none, some (.int (Int32.ofNat t))], [], h, fl_tot) r → Ev d2 212 (107, [some (.ref 223), some (.long x), none, some (.int (Int32.ofNat t)), o4, o5], [], hm, fl_tot) r2 → ∃ (y : Int64) (h' : Hp), r = (some (.long y), h', fl_tot) ∧ r2 = (some (.long y), hm, fl_tot)
  | 0, t, h, x, o4, o5, R, hn, e, e2 => by
    rcases dt_st G I R (by omega) e e2 with ⟨-, a, b⟩ | ⟨z, -⟩
    · exact ⟨x, h, a, b⟩
    · exact absurd z (by omega)
  | n + 1, t, h, x, o4, o5, R, hn, e, e2 => by
    rcases dt_st G I R (by omega) e e2 with ⟨z, -⟩ | ⟨-, x', h', o4', o5', R', a, b⟩
    · exact absurd z (by omega)
    · exact dt_both G I n (t + 1) R' (by omega) a b
theorem cmp_digest {h h1 h2 : Hp} {d d2 : Nat} {w v : Value} (rn : h.1 0 5 = h.1 223 13) (Q : RQ2 h) (hT1 : TInv h1) (S : SH h.2) (S1 : SH h1.2) (G1 : RG h1) (big : ∀ r : Nat, 223 ≤ r → r < 285 → h1.1 r = h.1 r) (X : Ev d 137 (0, [some (.ref 0), none, none, none], [], h, fl_tot) (some w, h1, fl_tot)) (M : Ev d2 212 (0, [some (.ref 223), none, none, none, none, none], [], h1, fl_tot) (some v, h2, fl_tot)) : w = v := by
  have e223 : h1.1 223 = h.1 223 := big 223 (by decide) (by decide)
  have WX := yd_0 S X
  have WM := zd_0 S1 M
  rw [rn] at WX
  rw [e223] at WM
  rcases WX with ⟨C3, X⟩ | ⟨z, wx⟩
  · rcases WM with ⟨-, M⟩ | ⟨z, -⟩
    · obtain ⟨g, st, G, R, tl⟩ := Q C3
      have R1 : RR g h h1 st := RR.out3 G R S S1 (fun _ _ _ _ => rfl) (fun _ _ _ _ => rfl) (fun _ _ _ _ _ => rfl) (fun K j kk => by rw [big K (by omega) (by omega)]) hT1
      have r13 : rd 31 13 h1 = (h1.1 223 13).toInt := xrd (K := 31) (by decide) (by decide) 13 h1
      have b13 : 0 ≤ rd 31 13 h1 ∧ rd 31 13 h1 ≤ 1 := rdt_ok hT1 31 13
      have I1 : RI h1 := G1.2 (by rw [e223] at r13; omega)
      rw [zN] at X M
      obtain ⟨x', k, o4', o5', X, M⟩ := dc_both G R1 (qc g) 0 (by omega) X M
      have X := yd_46 S X
      have M := zd_105 S1 M
      rw [zN] at X M
      obtain ⟨y, h', w1, w2⟩ := dt_both G I1 (qt g) 0 R1 (by omega) X M
      obtain ⟨p1, -, -⟩ := tri w1
      obtain ⟨p2, -, -⟩ := tri w2
      cases p1
      cases p2
      rfl
    · exact absurd z C3
  · rcases WM with ⟨z2, -⟩ | ⟨-, wm⟩
    · exact absurd z z2
    · obtain ⟨p1, -, -⟩ := tri wx
      obtain ⟨p2, -, -⟩ := tri wm
      cases p1
      cases p2
      rfl
