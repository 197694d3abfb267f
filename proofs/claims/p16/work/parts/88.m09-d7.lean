
set_option maxRecDepth 20000
/-! WHO IS AHEAD -/
def FA (h h' : Hp) : Prop := (∀ r j : Nat, r ≠ 216 → h'.1 r j = h.1 r j) ∧ h'.2 = h.2
theorem FA.refl (h : Hp) : FA h h := ⟨fun _ _ _ => rfl, rfl⟩
theorem FA.set {h h' : Hp} (x : FA h h') {j : Nat} {v : Int32} : FA h (fl_setI h' 216 j v) := ⟨fun r' j' z => by
  rw [setI_no (by omega)]
  exact x.1 r' j' z, x.2⟩
/-- act k has ended ahead of the begin of act y, by the steps -/
def AHs (h : Hp) (tk : Nat → Nat) (k y : Nat) : Prop := (h.1 (152 + 12 * (tk k / 8) + tk k % 8) 18).toInt < (h.1 (152 + 12 * (tk y / 8) + tk y % 8) 17).toInt
theorem fa_in {d M y : Nat} {h0 : Hp} {tk : Nat → Nat} {r : Option Value × Hp × Nat} (S0 : SH h0.2) (m12 : M ≤ 12) (e9 : h0.1 212 9 = Int32.ofNat M) (P : ∀ n : Nat, n < M → tk n < 40 ∧ h0.2 215 n = some (152 + 12 * (tk n / 8) + tk n % 8)) (hy : y < M) : ∀ (n x : Nat) (h : Hp), x ≤ M → M - x < n → FA h0 h → (∀ z : Nat, z < y → ∀ j : Nat, j < 32 → (hb (h.1 216 z) j = true ↔ (j < M ∧ AHs h0 tk j z))) → (∀ j : Nat, j < 32 → (hb (h.1 216 y) j = true ↔ (j < x ∧ AHs h0 tk j y))) → Ev d 109 (19, [some (.ref 212), some (.int (Int32.ofNat y)), some (.int (Int32.ofNat x))], [], h, fl_tot) r → ∃ h' : Hp, FA h0 h' ∧ (∀ z : Nat, z < y + 1 → ∀ j : Nat, j < 32 → (hb (h'.1 216 z) j = true ↔ (j < M ∧ AHs h0 tk j z))) ∧ Ev d 109 (66, [some (.ref 212), some (.int (Int32.ofNat y)), some (.int (Int32.ofNat M))], [], h', fl_tot) r
  | 0, x, h, hx, hn, F, B, C, e => by omega
  | n + 1, x, h, hx, hn, F, B, C, e => by
    have S : SH h.2 := by rw [F.2]; exact S0
    have ex := i32n (n := x) (by omega)
    have eM := i32n (n := M) (by omega)
    have exn : (Int32.ofNat x).toNatClampNeg = x := o32c (by omega)
    have eyn : (Int32.ofNat y).toNatClampNeg = y := o32c (by omega)
    have f9 : h.1 212 9 = Int32.ofNat M := (F.1 212 9 (by omega)).trans e9
    have W := ye_fa_x S e
    rw [f9] at W
    rcases W with ⟨q0, e⟩ | ⟨q0, e⟩
    · have xM : x = M := by omega
      subst xM
      refine ⟨h, F, fun z hz j hj => ?_, e⟩
      by_cases zy : z = y
      · rw [zy]; exact C j hj
      · exact B z (by omega) j hj
    · have xM : x < M := by omega
      obtain ⟨t40, p1⟩ := P x xM
      obtain ⟨y40, p2⟩ := P y hy
      obtain ⟨-, -, -, e⟩ := b15 e (show fl_code 109 32 = some (15, [], 33) by decide +kernel) (show fl_lay 215 = (30, 12) by decide +kernel) (b := 152 + 12 * (tk x / 8) + tk x % 8) (fun _ => by rw [exn, F.2]; exact p1)
      have e := ye_fa_a (c := tk x / 8) (i := tk x % 8) S (by omega) (by omega) e
      obtain ⟨-, -, -, e⟩ := b15 e (show fl_code 109 41 = some (15, [], 42) by decide +kernel) (show fl_lay 215 = (30, 12) by decide +kernel) (b := 152 + 12 * (tk y / 8) + tk y % 8) (fun _ => by rw [eyn, F.2]; exact p2)
      have W := ye_fa_b (c := tk y / 8) (i := tk y % 8) S (by omega) (by omega) e
      rw [eyn, F.1 _ 18 (by omega), F.1 _ 17 (by omega)] at W
      rcases W with ⟨q1, e⟩ | ⟨q1, e⟩
      · have e := ye_fa_c S e
        rw [o32 (by omega)] at e
        refine fa_in S0 m12 e9 P hy n (x + 1) h (by omega) (by omega) F B (fun j hj => ?_) e
        rw [C j hj]
        constructor
        · rintro ⟨a, b⟩
          exact ⟨by omega, b⟩
        · rintro ⟨a, b⟩
          by_cases z : j = x
          · subst z
            unfold AHs at b
            exfalso; omega
          · exact ⟨by omega, b⟩
      · have e := ye_fa_c (h := fl_setI h 216 y ((h.1 216 y) ||| ((Int32.ofInt 1) <<< (Int32.ofNat x &&& 31)))) S e
        rw [o32 (by omega)] at e
        refine fa_in S0 m12 e9 P hy n (x + 1) _ (by omega) (by omega) F.set (fun z hz j hj => by rw [setI_no (by omega)]; exact B z hz j hj) (fun j hj => ?_) e
        rw [setI_at, hb_on hj (by omega), Bool.or_eq_true, C j hj, decide_eq_true_eq]
        constructor
        · rintro (⟨a, b⟩ | a)
          · exact ⟨by omega, b⟩
          · subst a
            exact ⟨by omega, q1⟩
        · rintro ⟨a, b⟩
          by_cases z : j = x
          · exact Or.inr z
          · exact Or.inl ⟨by omega, b⟩
theorem fa_out {d M : Nat} {h0 : Hp} {tk : Nat → Nat} {r : Option Value × Hp × Nat} (S0 : SH h0.2) (m12 : M ≤ 12) (e9 : h0.1 212 9 = Int32.ofNat M) (P : ∀ n : Nat, n < M → tk n < 40 ∧ h0.2 215 n = some (152 + 12 * (tk n / 8) + tk n % 8)) : ∀ (n y : Nat) (h : Hp) (o2 : Option Value), y ≤ M → M - y < n → FA h0 h → (∀ z : Nat, z < y → ∀ j : Nat, j < 32 → (hb (h.1 216 z) j = true ↔ (j < M ∧ AHs h0 tk j z))) → Ev d 109 (2, [some (.ref 212), some (.int (Int32.ofNat y)), o2], [], h, fl_tot) r → ∃ h' : Hp, r = (none, h', fl_tot) ∧ FA h0 h' ∧ ∀ z : Nat, z < M → ∀ j : Nat, j < 32 → (hb (h'.1 216 z) j = true ↔ (j < M ∧ AHs h0 tk j z))
  | 0, y, h, o2, hy, hn, F, B, e => by omega
  | n + 1, y, h, o2, hy, hn, F, B, e => by
    have S : SH h.2 := by rw [F.2]; exact S0
    have ey := i32n (n := y) (by omega)
    have eM := i32n (n := M) (by omega)
    have eyn : (Int32.ofNat y).toNatClampNeg = y := o32c (by omega)
    have f9 : h.1 212 9 = Int32.ofNat M := (F.1 212 9 (by omega)).trans e9
    have W := ye_fa_y S e
    rw [f9, eyn] at W
    rcases W with ⟨q0, w⟩ | ⟨q0, e⟩
    · have yM : y = M := by omega
      subst yM
      exact ⟨h, w, F, B⟩
    · obtain ⟨h', F', B', e⟩ := fa_in S0 m12 e9 P (y := y) (by omega) (M + 1) 0 (fl_setI h 216 y (Int32.ofInt 0)) (by omega) (by omega) F.set (fun z hz j hj => by rw [setI_no (by omega)]; exact B z hz j hj) (fun j hj => by
        rw [setI_at, hb_0]
        exact ⟨fun z => (by cases z), fun z => (by omega)⟩) e
      have e := ye_fa_d (by rw [F'.2]; exact S0) e
      rw [o32 (by omega)] at e
      exact fa_out S0 m12 e9 P n (y + 1) h' _ (by omega) (by omega) F' B' e
theorem x_ahead {d M : Nat} {h : Hp} {tk : Nat → Nat} {r : Option Value × Hp × Nat} (S : SH h.2) (m12 : M ≤ 12) (e9 : h.1 212 9 = Int32.ofNat M) (P : ∀ n : Nat, n < M → tk n < 40 ∧ h.2 215 n = some (152 + 12 * (tk n / 8) + tk n % 8)) (e : Ev d 109 (0, [some (.ref 212), none, none], [], h, fl_tot) r) : ∃ h' : Hp, r = (none, h', fl_tot) ∧ FA h h' ∧ ∀ z : Nat, z < M → ∀ j : Nat, j < 32 → (hb (h'.1 216 z) j = true ↔ (j < M ∧ AHs h tk j z)) :=
  fa_out S m12 e9 P (M + 1) 0 h none (by omega) (by omega) (FA.refl h) (fun z hz => by omega) (ye_fa_0 S e)
/-! THE CHECKER ON BOTH SIDES -/
/-- the class's checker's own cells -/
def FJ (h h' : Hp) : Prop := (∀ r j : Nat, ¬ (212 ≤ r ∧ r ≤ 217) → h'.1 r j = h.1 r j) ∧ ∀ r j : Nat, r ≠ 215 → ¬ (r = 212 ∧ j = 8) → h'.2 r j = h.2 r j
def FN (m m' : Hp) : Prop := (∀ K j : Nat, ¬ (274 ≤ K ∧ K ≤ 281) → ¬ (K = 223 ∧ (j = 60 ∨ j = 64 ∨ j = 68 ∨ j = 69)) → m'.1 K j = m.1 K j) ∧ m'.2 = m.2
/-- the order found is the same -/
def ORD (h' hm' : Hp) : Prop := ∃ (M : Nat) (tk pl : Nat → Nat), M ≤ 12 ∧ h'.1 212 9 = Int32.ofNat M ∧ hm'.1 223 60 = Int32.ofNat M ∧ (∀ k : Nat, k < M → tk k < 40 ∧ hm'.1 274 k = Int32.ofNat (tk k) ∧ h'.2 215 k = some (152 + 12 * (tk k / 8) + tk k % 8)) ∧ ∀ d : Nat, d < M → pl d < M ∧ h'.1 217 d = Int32.ofNat (pl d) ∧ hm'.1 275 d = Int32.ofNat (pl d)
theorem ah_link {g h hm : Hp} {st : Nat} {tk : Nat → Nat} {T k y : Nat} (R : RR g h hm st) (Gk : GD g hm T (tk k)) (Gy : GD g hm T (tk y)) (c5 : qc g ≤ 5) (m8 : ∀ c : Nat, c < qc g → qm g c ≤ 8) : AHs h tk k y ↔ AHx hm tk k y := by
  obtain ⟨⟨X, M, S15, K, hT⟩, ⟨RT, ST⟩, RC⟩ := R
  obtain ⟨c, j, hc, hj, ek, -, e42, e39⟩ := Gk
  obtain ⟨c', j', hc', hj', ey, -, e42', e39'⟩ := Gy
  have q1 := m8 c hc
  have q2 := m8 c' hc'
  obtain ⟨i, CK, -⟩ := RC c hc
  obtain ⟨i', CK', -⟩ := RC c' hc'
  have O := (CK.2.1 j hj).1
  have O' := (CK'.2.1 j' hj').1
  have d1 : tk k / 8 = c := by omega
  have d2 : tk k % 8 = j := by omega
  have d3 : tk y / 8 = c' := by omega
  have d4 : tk y % 8 = j' := by omega
  rw [ek] at e42
  obtain ⟨a1, a2, a3, a4⟩ := O.2.2.2.1 e42
  have b41 : (hm.1 241 (8 * c' + j')).toInt ≠ -1 := fun z => by
    have := O'.2.1.mpr z
    rw [O'.1.1] at this
    rw [ey] at e39'
    omega
  obtain ⟨b1, b2, b3⟩ := O'.2.2.1 b41
  unfold AHs AHx
  rw [d1, d2, d3, d4, a3, b3, ek, ey]
  generalize hm.1 242 (8 * c + j) = E at a1 a2 a4
  generalize hm.1 241 (8 * c' + j') = B at b1 b2
  have eE := lc_clamp a1
  have eB := lc_clamp b1
  have KE := (K.2 E.toNatClampNeg (by omega)).2.2.2
  have KB := (K.2 B.toNatClampNeg (by omega)).2.2.2
  constructor
  · intro z
    by_cases w : B.toInt ≤ E.toInt
    · by_cases w2 : B.toInt = E.toInt
      · have : B.toNatClampNeg = E.toNatClampNeg := by omega
        rw [this] at z
        omega
      · have := (KE B.toNatClampNeg (by omega)).1
        omega
    · omega
  · intro z
    exact (KB E.toNatClampNeg (by omega)).2 a4
theorem tk_end {d T : Nat} {m0 : Hp} {r : Option Value × Hp × Nat} (S0 : SH m0.2) (m80 : (m0.1 223 16).toInt ≤ 80) : ∀ (n k : Nat) (hm : Hp) (o3 : Option Value), k ≤ 81 → 81 - k < n → FT m0 hm → Ev d 195 (7, [some (.ref 223), some (.int (Int32.ofNat T)), some (.int (Int32.ofNat k)), o3], [], hm, fl_tot) r → ∃ hm' : Hp, r = (none, hm', fl_tot) ∧ FT m0 hm'
  | 0, k, hm, o3, hk, hn, F, e => by omega
  | n + 1, k, hm, o3, hk, hn, F, e => by
    have S : SH hm.2 := by rw [F.2]; exact S0
    have ek := i32n (n := k) (by omega)
    have e16' : (hm.1 223 16).toInt ≤ 80 := by rw [F.1 223 16 (by omega) (by omega)]; exact m80
    have nx : ∀ (m' : Hp) (q3 : Option Value), k < 81 → FT m0 m' → Ev d 195 (81, [some (.ref 223), some (.int (Int32.ofNat T)), some (.int (Int32.ofNat k)), q3], [], m', fl_tot) r → ∃ hm' : Hp, r = (none, hm', fl_tot) ∧ FT m0 hm' := fun m' q3 km F' e => by
      have e := zc_tk_i (by rw [F'.2]; exact S0) e
      rw [o32 (by omega)] at e
      exact tk_end S0 m80 n (k + 1) m' q3 (by omega) (by omega) F' e
    rcases zc_tk_l S e with ⟨q0, e⟩ | ⟨q0, q1, e⟩ | ⟨q0, q1, q2, e⟩ | ⟨q0, q1, q2, q3, e⟩ | ⟨q0, q1, q2, q3, q4, e⟩ | ⟨q0, q1, q2, q3, q4, e⟩
    · exact ⟨hm, zc_tk_x S e, F⟩
    · exact nx hm _ (by omega) F e
    · exact nx hm _ (by omega) F e
    · exact nx hm _ (by omega) F e
    · exact nx hm _ (by omega) F e
    · exact nx _ _ (by omega) ((F.set (by omega)).set (by omega)) e
theorem z_ip {d M T : Nat} {m0 : Hp} {mo : Int32} {r : Option Value × Hp × Nat} (S0 : SH m0.2) (m12 : M ≤ 12) (e60 : m0.1 223 60 = Int32.ofNat M) : ∀ (n k : Nat) (hm : Hp), k ≤ M → M - k < n → (∀ K j : Nat, K ≠ 276 → hm.1 K j = m0.1 K j) → hm.2 = m0.2 → (∀ j : Nat, j < k → hm.1 276 j = Int32.ofInt 0) → Ev d 194 (31, [some (.ref 223), some (.int (Int32.ofNat T)), some (.int mo), some (.int (Int32.ofNat k)), none], [], hm, fl_tot) r → ∃ hm' : Hp, (∀ K j : Nat, K ≠ 276 → hm'.1 K j = m0.1 K j) ∧ hm'.2 = m0.2 ∧ (∀ j : Nat, j < M → hm'.1 276 j = Int32.ofInt 0) ∧ Ev d 194 (52, [some (.ref 223), some (.int (Int32.ofNat T)), some (.int mo), some (.int (Int32.ofNat M)), none], [], hm', fl_tot) r
  | 0, k, hm, hk, hn, F, F2, B, e => by omega
  | n + 1, k, hm, hk, hn, F, F2, B, e => by
    have S : SH hm.2 := by rw [F2]; exact S0
    have ek := i32n (n := k) (by omega)
    have eM := i32n (n := M) (by omega)
    have ekn : (Int32.ofNat k).toNatClampNeg = k := o32c (by omega)
    have W := zc_se_2 S e
    rw [F 223 60 (by omega), e60, ekn] at W
    rcases W with ⟨q0, e⟩ | ⟨q0, e⟩
    · have kM : k = M := by omega
      subst kM
      exact ⟨hm, F, F2, B, e⟩
    · have e := zc_se_3 (h := fl_setI hm 276 k (Int32.ofInt 0)) S e
      rw [o32 (by omega)] at e
      refine z_ip S0 m12 e60 n (k + 1) (fl_setI hm 276 k (Int32.ofInt 0)) (by omega) (by omega) (fun K j z => by rw [setI_no (by omega)]; exact F K j z) F2 (fun j hj => ?_) e
      by_cases z : j = k
      · rw [z, setI_at]
      · rw [setI_no (by omega)]
        exact B j (by omega)
theorem TRc.to {g h hm h' hm' : Hp} {T : Nat} {b : Int} (ht : T < 6) (k : hm'.1 224 T = g.1 224 T) (x : ∀ r j : Nat, 1 ≤ r → r < 200 → h'.1 r j = h.1 r j) (m : ∀ K j : Nat, 255 ≤ K → K ≤ 272 → hm'.1 K j = hm.1 K j) (A : TRc g h hm T b) : TRc hm' h' hm' T b := by
  obtain ⟨t1, t2, t3, t4⟩ := A
  unfold TRc
  rw [k]
  refine ⟨fun z j hj => ?_, fun z => ?_, fun z i h4 => ?_, fun z => ?_⟩
  · rw [x _ _ (by omega) (by omega), x _ _ (by omega) (by omega), m 255 _ (by omega) (by omega), m 256 _ (by omega) (by omega)]
    exact t1 z j hj
  · obtain ⟨q1, q2, q3, q4⟩ := t2 z
    unfold TRq
    rw [x (5 + 24 * T) 3 (by omega) (by omega), x (5 + 24 * T) 2 (by omega) (by omega), x (5 + 24 * T) 4 (by omega) (by omega), m 261 _ (by omega) (by omega), m 262 _ (by omega) (by omega)]
    refine ⟨q1, fun j hj => ?_, q3, q4⟩
    rw [x _ _ (by omega) (by omega), m 260 _ (by omega) (by omega)]
    exact q2 j hj
  · rw [x _ _ (by omega) (by omega), m 263 _ (by omega) (by omega)]
    exact t3 z i h4
  · obtain ⟨q1, q2, q3⟩ := t4 z
    unfold TRo
    rw [x (4 + 24 * T) 9 (by omega) (by omega), x (4 + 24 * T) 10 (by omega) (by omega), x (4 + 24 * T) 11 (by omega) (by omega), m 271 _ (by omega) (by omega), m 272 _ (by omega) (by omega)]
    refine ⟨fun j hj => ?_, q2, q3⟩
    rw [x _ _ (by omega) (by omega), m 264 _ (by omega) (by omega), m 265 _ (by omega) (by omega)]
    exact q1 j hj
/-- what RR tells of an act that is taken -/
theorem gd_all {g h hm h' hm' : Hp} {st T x : Nat} (G : GS g) (R : RR g h hm st) (D : GD g hm T x) (hT : T < 6) (fx : ∀ r j : Nat, 148 ≤ r → r < 208 → h'.1 r j = h.1 r j) (fm : ∀ K j : Nat, 224 ≤ K → K ≤ 242 → hm'.1 K j = hm.1 K j) (k6 : h'.1 212 6 = g.1 224 T) (k7 : h'.1 212 7 = g.1 225 T) : x < 40 ∧ AWF hm' T x ∧ CWF hm' h' T (x / 8) (x % 8) ∧ ¬ (hm'.1 242 x).toInt < (hm'.1 241 x).toInt := by
  obtain ⟨⟨X, M, S15, K, hTm⟩, ⟨RT, ST⟩, RC⟩ := R
  obtain ⟨c, j, hc, hj, rfl, qt', e42, e39⟩ := D
  have c5 := G.c5 hc
  have j8 := G.i8 hc hj
  have q5 := G.1.2.2.1
  obtain ⟨i, CK, -⟩ := RC c hc
  have O := (CK.2.1 j hj).1
  obtain ⟨w1, w2, w3, w4⟩ := CK.2.2.2.2 j hj
  have d1 : (8 * c + j) / 8 = c := by omega
  have d2 : (8 * c + j) % 8 = j := by omega
  have m24 : hm'.1 224 T = g.1 224 T := (fm 224 T (by omega) (by omega)).trans (M.2.2.2 224 _ (by decide) (by decide))
  have m25 : hm'.1 225 T = g.1 225 T := (fm 225 T (by omega) (by omega)).trans (M.2.2.2 225 _ (by decide) (by decide))
  have m29 : hm'.1 229 (8 * c + j) = g.1 229 (8 * c + j) := (fm 229 _ (by omega) (by omega)).trans (M.2.2.2 229 _ (by decide) (by decide))
  have m30 : hm'.1 230 (8 * c + j) = g.1 230 (8 * c + j) := (fm 230 _ (by omega) (by omega)).trans (M.2.2.2 230 _ (by decide) (by decide))
  have m31 : hm'.1 231 (8 * c + j) = g.1 231 (8 * c + j) := (fm 231 _ (by omega) (by omega)).trans (M.2.2.2 231 _ (by decide) (by decide))
  have m39 : hm'.1 239 (8 * c + j) = hm.1 239 (8 * c + j) := fm 239 _ (by omega) (by omega)
  have m38 : hm'.1 238 (8 * c + j) = hm.1 238 (8 * c + j) := fm 238 _ (by omega) (by omega)
  have kK : qK g c j = (g.1 224 T).toInt := by
    unfold qK
    rw [qt']
  have b39 : 0 ≤ (hm.1 239 (8 * c + j)).toInt ∧ (hm.1 239 (8 * c + j)).toInt ≤ 6 := TI.rng hTm 47 40 0 6 (by decide +kernel) (by decide) (by decide) (i := 8 * c + j) (by omega)
  have op := G.op hc hj
  have ky := G.ky hc hj
  rw [kK] at op ky w2 w3
  refine ⟨by omega, ⟨by rw [m24, m29]; exact op, by rw [m24, m29, m30]; exact ky, by rw [m39]; omega, by rw [m39, m38]; exact w1, by rw [m24, m39]; exact w2, by omega, hT⟩, ⟨?_, by rw [k6, m24], by rw [k7, m25]⟩, ?_⟩
  · rw [d1, d2, m24, m29, m30, m31, m39, m38]
    have f : ∀ k : Nat, h'.1 (152 + 12 * c + j) k = h.1 (152 + 12 * c + j) k := fun k => fx _ _ (by omega) (by omega)
    unfold ADT
    rw [f, f, f, f, f, f, f, f]
    obtain ⟨s1, s2, s3, s4, s5, s6⟩ := X
    obtain ⟨a0, a1, -⟩ := (s4 c c5).2 j j8
    obtain ⟨y2, y3, y4, y5, y6⟩ := (s5 c hc).2 j hj
    exact ⟨a0, a1, y3, y4, y5, w3, O.1.1, O.1.2⟩
  · rw [fm 242 _ (by omega) (by omega), fm 241 _ (by omega) (by omega)]
    have := w4 e42
    omega
theorem judge_both {g h hm : Hp} {st T d1 d2 : Nat} {mo : Int32} {rx rm : Option Value × Hp × Nat} (G : GS g) (R : RR g h hm st) (I : RI hm) (tol : h.1 208 6 = hm.1 223 14) (hT : T < qt g) (hmo : 0 ≤ mo.toInt ∧ mo.toInt ≤ 3000) (e : Ev d1 106 (0, [some (.ref 212), some (.int (Int32.ofNat T)), some (.int mo)], [], h, fl_tot) rx) (em : Ev d2 194 (0, [some (.ref 223), some (.int (Int32.ofNat T)), some (.int mo), none, none], [], hm, fl_tot) rm) : ∃ (v : Int32) (h' hm' : Hp), rx = (some (.int v), h', fl_tot) ∧ rm = (some (.int v), hm', fl_tot) ∧ FJ h h' ∧ FN hm hm' ∧ (v.toInt = -1 ∨ v.toInt = 0 ∨ v.toInt = 1 ∨ v.toInt = -5) ∧ (v.toInt ≠ -1 → h'.1 212 11 = hm'.1 223 64) ∧ (v.toInt = 1 → ORD h' hm') := by
  obtain ⟨⟨X, Ms, S15, K, hTm⟩, ⟨RT, ST⟩, RC⟩ := id R
  have q6 := G.1.1
  have q5 := G.1.2.2.1
  have T6 : T < 6 := by omega
  have m8 : ∀ c : Nat, c < qc g → qm g c ≤ 8 := fun c hc => G.m8 hc
  have S : SH h.2 := X.1
  have Sm : SH hm.2 := Ms.1
  have TN : (Int32.ofNat T).toNatClampNeg = T := o32c (by omega)
  have TI' := i32n (n := T) (by omega)
  have MV := mvx G Ms I
  have r16 : rd 31 16 hm = (hm.1 223 16).toInt := xrd (K := 31) (by decide) (by decide) 16 hm
  have b16' : 0 ≤ rd 31 16 hm ∧ rd 31 16 hm ≤ 80 := rdt_ok hTm 31 16
  rw [r16] at b16'
  have N16 := lc_clamp b16'.1
  -- the reference takes
  have em := zc_se_0 Sm em
  obtain ⟨e1, v1, k1, n1, z1, ec1, em⟩ := b_call (m2 := 195) (k := 1) (nL := 4) (as := [.ref 223, .int (Int32.ofNat T)]) (rest := []) (L := [some (.ref 223), some (.int (Int32.ofNat T)), none, none]) em (show fl_code 194 2 = some (18, [((195 : Nat) : Int), ((1 : Nat) : Int)], 5) by decide +kernel) rfl (by decide +kernel) rfl rfl rfl
  have ec1 := zc_tk_0 Sm ec1
  have FT1 : FT hm (fl_setI hm 223 60 (Int32.ofInt 0)) := (FT.refl hm).set (by omega)
  -- the class begins
  have CG1 : CG h (fl_setI h 212 9 (Int32.ofInt 0)) := ⟨fun r j z => setI_no (by omega), fun _ _ _ => rfl⟩
  rcases ye_ju_0 S e with ⟨t2, w⟩ | ⟨t2, e⟩
  · -- cut off
    obtain ⟨m2, w1, F2⟩ := tk_end Sm (by omega) 82 0 _ none (by omega) (by omega) FT1 ec1
    obtain ⟨wa, wb, wc⟩ := tri w1
    rw [wa, wb, wc] at em
    have S2 : SH m2.2 := by rw [F2.2]; exact Sm
    have e14 : (m2.1 223 14).toInt = 2 := by rw [F2.1 223 14 (by omega) (by omega), ← tol]; exact t2
    rcases zc_se_1 S2 em with ⟨-, wm⟩ | ⟨y, -⟩ | ⟨y, -⟩
    · refine ⟨_, _, _, w, wm, ⟨fun r j z => CG1.1 r j (by omega), fun r j z _ => CG1.2 r j z⟩, ⟨fun K j z1 z2 => F2.1 K j (by omega) (by omega), F2.2⟩, Or.inl (by decide), fun z => absurd (by decide) z, fun z => absurd z (by decide)⟩
    · exact absurd e14 y
    · exact absurd e14 y
  · -- is it a tray; gather
    have S1 : SH (fl_setI h 212 9 (Int32.ofInt 0)).2 := S
    obtain ⟨e2, v2, k2, n2, z2, ec2, e⟩ := b_call (m2 := 18) (k := 1) (nL := 2) (as := [.ref 1, .int (Int32.ofNat T)]) (rest := []) (L := [some (.ref 1), some (.int (Int32.ofNat T))]) e (show fl_code 106 21 = some (18, [((18 : Nat) : Int), ((1 : Nat) : Int)], 24) by decide +kernel) rfl (by decide +kernel) rfl rfl rfl
    have b12 : ((fl_setI h 212 9 (Int32.ofInt 0)).1 1 2).toInt = qt g := by rw [setI_no (by omega), X.2.1.1]; exact G.1.2.1
    have w2 : (v2, k2, n2) = (some (.int (Int32.ofInt 1)), fl_setI h 212 9 (Int32.ofInt 0), fl_tot) := by
      rcases x_hasTray ec2 with ⟨-, w⟩ | ⟨z, -⟩
      · exact w
      · exact absurd ⟨by omega, by omega, by omega⟩ z
    obtain ⟨wa, wb, wc⟩ := tri w2
    rw [wa, wb, wc] at e
    have e : Ev d1 106 (24, [some (.ref 212), some (.int (Int32.ofNat T)), some (.int mo)], [.int (Int32.ofInt 1)], fl_setI h 212 9 (Int32.ofInt 0), fl_tot) rx := e
    rcases ye_ju_1 S1 e with ⟨y, -⟩ | ⟨-, e⟩
    · exact absurd y (by decide)
    obtain ⟨e3, v3, k3, n3, z3, ec3, e⟩ := b_call (m2 := 107) (k := 1) (nL := 7) (as := [.ref 212, .int (Int32.ofNat T)]) (rest := []) (L := [some (.ref 212), some (.int (Int32.ofNat T)), none, none, none, none, none]) e (show fl_code 106 29 = some (18, [((107 : Nat) : Int), ((1 : Nat) : Int)], 32) by decide +kernel) rfl (by decide +kernel) rfl rfl rfl
    have ec3 := ye_ga_0 S1 ec3
    have OU : ∀ c j : Nat, c < qc g → j < qm g c → h.1 (152 + 12 * c + j) 15 = hm.1 239 (8 * c + j) ∧ ((hm.1 242 (8 * c + j)).toInt ≠ -1 ↔ (hm.1 239 (8 * c + j)).toInt ≤ 4) := fun c j hc hj => by
      obtain ⟨i, CK, -⟩ := RC c hc
      have O := (CK.2.1 j hj).1
      exact ⟨O.1.1, O.2.2.2.2⟩
    rcases gather_l (d1 := e3) (d2 := e1) (rx := (v3, k3, n3)) (rm := (v1, k1, n1)) G X Ms MV K.1 (fun j hj => ⟨(K.2 j hj).1.1, (K.2 j hj).1.2.1, (K.2 j hj).1.2.2.1⟩) OU N16.symm (by omega) T6 ((hm.1 223 16).toNatClampNeg + 1) 0 0 (fun _ => 0) (fl_setI h 212 9 (Int32.ofInt 0)) (fl_setI hm 223 60 (Int32.ofInt 0)) none none none none none (by omega) (by omega) (by omega) (by omega) CG1 FT1 ⟨setI_at, setI_at, fun n hn => by omega⟩ ec3 ec1 with ⟨M, tk, h2, m2, m12, w3, w4, CG2, FT2, GG⟩ | ⟨h2, m2, w3, w4, CG2, FT2, c13⟩
    case inr =>
      obtain ⟨wa, wb, wc⟩ := tri w3
      rw [wa, wb, wc] at e
      obtain ⟨wa, wb, wc⟩ := tri w4
      rw [wa, wb, wc] at em
      have S2 : SH h2.2 := SH.cg CG2 S
      have Sm2 : SH m2.2 := by rw [FT2.2]; exact Sm
      have FJ2 : FJ h h2 := ⟨fun r j z => CG2.1 r j (by omega), fun r j z _ => CG2.2 r j z⟩
      have FN2 : FN hm m2 := ⟨fun K j z1 z2 => FT2.1 K j (by omega) (by omega), FT2.2⟩
      rcases ye_ju_2 S2 e with ⟨y, -⟩ | ⟨-, w⟩
      · exact absurd rfl y
      · rcases zc_se_1 Sm2 em with ⟨-, wm⟩ | ⟨-, y, -⟩ | ⟨-, -, wm⟩
        · exact ⟨_, _, _, w, wm, FJ2, FN2, Or.inl (by decide), fun z => absurd (by decide) z, fun z => absurd z (by decide)⟩
        · exfalso; omega
        · exact ⟨_, _, _, w, wm, FJ2, FN2, Or.inl (by decide), fun z => absurd (by decide) z, fun z => absurd z (by decide)⟩
    obtain ⟨wa, wb, wc⟩ := tri w3
    rw [wa, wb, wc] at e
    obtain ⟨wa, wb, wc⟩ := tri w4
    rw [wa, wb, wc] at em
    obtain ⟨g1, g2, g3⟩ := GG
    have S2 : SH h2.2 := SH.cg CG2 S
    have Sm2 : SH m2.2 := by rw [FT2.2]; exact Sm
    have eM := i32n (n := M) (by omega)
    -- the class: what is to be checked
    have e : Ev d1 106 (32, [some (.ref 212), some (.int (Int32.ofNat T)), some (.int mo)], [.int (Int32.ofInt 1)], h2, fl_tot) rx := e
    rcases ye_ju_2 S2 e with ⟨-, e⟩ | ⟨y, -⟩
    case inr => exact absurd y (by decide)
    obtain ⟨-, -, -, -, -, -, e⟩ := ye_ju_3 S2 T6 e
    have x6 : h2.1 (4 + 24 * T) 6 = g.1 224 T := by rw [CG2.1 _ _ (by omega)]; exact (X.2.2.1 T hT).1
    have x7 : h2.1 (4 + 24 * T) 7 = g.1 225 T := by rw [CG2.1 _ _ (by omega)]; exact (X.2.2.1 T hT).2.1
    rw [x6, x7] at e
    obtain ⟨h3, qh3⟩ : ∃ z, z = fl_setI (fl_setI (fl_setI (fl_setR (fl_setI (fl_setI h2 212 6 (g.1 224 T)) 212 7 (g.1 225 T)) 212 8 (some (5 + 24 * T))) 212 12 mo) 212 11 (Int32.ofInt 0)) 212 10 (Int32.ofInt 0) := ⟨_, rfl⟩
    rw [← qh3] at e
    have S3 : SH h3.2 := by rw [qh3]; exact SH.set212 S2
    have r3 : ∀ r j : Nat, ¬ (r = 212 ∧ j = 8) → h3.2 r j = h2.2 r j := fun r j z => by
      rw [qh3]
      show (fl_setR _ 212 8 _).2 r j = _
      rw [rR, if_neg z]
      rfl
    have r38 : h3.2 212 8 = some (5 + 24 * T) := by
      rw [qh3]
      show (fl_setR h2 212 8 (some (5 + 24 * T))).2 212 8 = _
      rw [rR, if_pos ⟨rfl, rfl⟩]
    have o3 : ∀ r j : Nat, r ≠ 212 → h3.1 r j = h2.1 r j := fun r j z => by
      rw [qh3, setI_no (by omega), setI_no (by omega), setI_no (by omega)]
      show (fl_setI (fl_setI h2 212 6 (g.1 224 T)) 212 7 (g.1 225 T)).1 r j = _
      rw [setI_no (by omega), setI_no (by omega)]
    have o39 : h3.1 212 9 = Int32.ofNat M := by
      rw [qh3, setI_no (by omega), setI_no (by omega), setI_no (by omega)]
      show (fl_setI (fl_setI h2 212 6 (g.1 224 T)) 212 7 (g.1 225 T)).1 212 9 = _
      rw [setI_no (by omega), setI_no (by omega)]
      exact g1
    have o36 : h3.1 212 6 = g.1 224 T := by
      rw [qh3, setI_no (by omega), setI_no (by omega), setI_no (by omega)]
      show (fl_setI (fl_setI h2 212 6 (g.1 224 T)) 212 7 (g.1 225 T)).1 212 6 = _
      rw [setI_no (by omega), setI_at]
    have o37 : h3.1 212 7 = g.1 225 T := by
      rw [qh3, setI_no (by omega), setI_no (by omega), setI_no (by omega)]
      show (fl_setI (fl_setI h2 212 6 (g.1 224 T)) 212 7 (g.1 225 T)).1 212 7 = _
      rw [setI_at]
    have o312 : h3.1 212 12 = mo := by rw [qh3, setI_no (by omega), setI_no (by omega), setI_at]
    have o311 : h3.1 212 11 = Int32.ofInt 0 := by rw [qh3, setI_no (by omega), setI_at]
    have o310 : h3.1 212 10 = Int32.ofInt 0 := by rw [qh3, setI_at]
    -- empty, ahead
    obtain ⟨e4, v4, k4', n4, z4, ec4, e⟩ := b_call (m2 := 29) (k := 0) (nL := 1) (as := [.ref 213]) (rest := []) (L := [some (.ref 213)]) e (show fl_code 106 104 = some (18, [((29 : Nat) : Int), ((0 : Nat) : Int)], 107) by decide +kernel) rfl (by decide +kernel) rfl rfl rfl
    obtain ⟨h4, w5, FP4, C4⟩ := x_empty2 (k := (g.1 224 T).toInt) S3 ec4
    obtain ⟨wa, wb, wc⟩ := tri w5
    rw [wa, wb, wc] at e
    have S4 : SH h4.2 := by rw [FP4.2]; exact S3
    have e := ye_ju_4 S4 e
    obtain ⟨e5, v5, k5, n5, z5, ec5, e⟩ := b_call (m2 := 109) (k := 0) (nL := 3) (as := [.ref 212]) (rest := []) (L := [some (.ref 212), none, none]) e (show fl_code 106 108 = some (18, [((109 : Nat) : Int), ((0 : Nat) : Int)], 111) by decide +kernel) rfl (by decide +kernel) rfl rfl rfl
    have tk40 : ∀ k : Nat, k < M → tk k < 40 := fun k hk => by
      obtain ⟨c, j, hc, hj, ek, -⟩ := (g3 k hk).2.2
      have := G.c5 hc
      have := G.i8 hc hj
      omega
    have o4 : ∀ r j : Nat, r ≠ 213 → r ≠ 214 → h4.1 r j = h3.1 r j := fun r j z1 z2 => FP4.1 r j (by omega)
    have p4 : ∀ n : Nat, n < M → tk n < 40 ∧ h4.2 215 n = some (152 + 12 * (tk n / 8) + tk n % 8) := fun n hn => ⟨tk40 n hn, by rw [FP4.2, r3 215 n (by omega)]; exact (g3 n hn).2.1⟩
    obtain ⟨h5, w6, FA5, B5⟩ := x_ahead S4 m12 (by rw [o4 212 9 (by omega) (by omega)]; exact o39) p4 ec5
    obtain ⟨wa, wb, wc⟩ := tri w6
    rw [wa, wb, wc] at e
    have S5 : SH h5.2 := by rw [FA5.2]; exact S4
    have e := ye_ju_5 S5 e
    obtain ⟨e6, v6, k6', n6, z6, ec6, e⟩ := b_call (m2 := 110) (k := 2) (nL := 6) (as := [.ref 212, .int (Int32.ofInt 0)]) (rest := []) (L := [some (.ref 212), some (.int (Int32.ofInt 0)), none, none, none, none]) e (show fl_code 106 113 = some (19, [((110 : Nat) : Int), ((2 : Nat) : Int)], 116) by decide +kernel) rfl (by decide +kernel) rfl rfl rfl
    have e : Ev d1 106 (116, [some (.ref 212), some (.int (Int32.ofNat T)), some (.int mo)], v6.toList ++ [], k6', n6) rx := e
    -- the reference: nothing placed, empty
    have e14 : (m2.1 223 14).toInt ≠ 2 := by rw [FT2.1 223 14 (by omega) (by omega), ← tol]; exact t2
    have W1 := zc_se_1 Sm2 em
    rw [g2, eM] at W1
    rcases W1 with ⟨y, -⟩ | ⟨-, -, em⟩ | ⟨-, y, -⟩
    · exact absurd y e14
    case inr.inr => exfalso; omega
    have e60 : (fl_setI m2 223 64 (Int32.ofInt 0)).1 223 60 = Int32.ofNat M := by rw [setI_no (by omega)]; exact g2
    obtain ⟨m4, f4, f42, b4, em⟩ := z_ip (M := M) (m0 := fl_setI m2 223 64 (Int32.ofInt 0)) Sm2 m12 e60 (M + 1) 0 _ (by omega) (by omega) (fun _ _ _ => rfl) rfl (fun j hj => by omega) em
    have Sm4 : SH m4.2 := by rw [f42]; exact Sm2
    have em := zc_se_4 Sm4 em
    obtain ⟨e7, v7, k7, n7, z7, ec7, em⟩ := b_call (m2 := 196) (k := 0) (nL := 2) (as := [.ref 223]) (rest := []) (L := [some (.ref 223), none]) em (show fl_code 194 62 = some (18, [((196 : Nat) : Int), ((0 : Nat) : Int)], 65) by decide +kernel) rfl (by decide +kernel) rfl rfl rfl
    obtain ⟨m5, w7, FM5, R5⟩ := z_empty2 (h := fl_setI m4 277 0 (Int32.ofInt 0)) Sm4 ec7
    obtain ⟨wa, wb, wc⟩ := tri w7
    rw [wa, wb, wc] at em
    have Sm5 : SH m5.2 := by rw [FM5.2]; exact Sm4
    have em : Ev d2 194 (65, [some (.ref 223), some (.int (Int32.ofNat T)), some (.int mo), some (.int (Int32.ofInt 0)), none], [], m5, fl_tot) rm := em
    -- frames to the start of the search
    have fm : ∀ K j : Nat, ¬ (274 ≤ K ∧ K ≤ 281) → ¬ (K = 223 ∧ (j = 60 ∨ j = 64 ∨ j = 68 ∨ j = 69)) → m5.1 K j = hm.1 K j := fun K j z1 z2 => by
      rw [FM5.1 K j (by omega) (by omega), setI_no (by omega), f4 K j (by omega), setI_no (by omega)]
      exact FT2.1 K j (by omega) (by omega)
    have fm2 : m5.2 = hm.2 := FM5.2.trans (f42.trans FT2.2)
    have m60 : m5.1 223 60 = Int32.ofNat M := by rw [FM5.1 223 60 (by omega) (by omega), setI_no (by omega), f4 223 60 (by omega)]; exact e60
    have m64 : m5.1 223 64 = Int32.ofInt 0 := by rw [FM5.1 223 64 (by omega) (by omega), setI_no (by omega), f4 223 64 (by omega), setI_at]
    have m74 : ∀ k : Nat, k < M → m5.1 274 k = Int32.ofNat (tk k) := fun k hk => by
      rw [FM5.1 274 k (by omega) (by omega), setI_no (by omega), f4 274 k (by omega), setI_no (by omega)]
      exact (g3 k hk).1
    have m76 : ∀ k : Nat, k < M → m5.1 276 k = Int32.ofInt 0 := fun k hk => by
      rw [FM5.1 276 k (by omega) (by omega), setI_no (by omega)]
      exact b4 k hk
    have m77 : m5.1 277 0 = Int32.ofNat 0 := by
      rw [FM5.1 277 0 (by omega) (by omega), setI_at]
      rfl
    have fh : ∀ r j : Nat, ¬ (212 ≤ r ∧ r ≤ 217) → h5.1 r j = h.1 r j := fun r j z => by
      rw [FA5.1 r j (by omega), o4 r j (by omega) (by omega), o3 r j (by omega)]
      exact CG2.1 r j (by omega)
    have fh2 : ∀ r j : Nat, r ≠ 215 → ¬ (r = 212 ∧ j = 8) → h5.2 r j = h.2 r j := fun r j z1 z2 => by
      rw [FA5.2, FP4.2, r3 r j z2]
      exact CG2.2 r j z1
    have c5 : ∀ j : Nat, h5.1 212 j = h3.1 212 j := fun j => by rw [FA5.1 212 j (by omega), o4 212 j (by omega) (by omega)]
    have GA : ∀ k : Nat, k < M → tk k < 40 ∧ AWF m5 T (tk k) ∧ CWF m5 h5 T (tk k / 8) (tk k % 8) ∧ ¬ (m5.1 242 (tk k)).toInt < (m5.1 241 (tk k)).toInt := fun k hk => gd_all G R (g3 k hk).2.2 T6 (fun r j z1 z2 => fh r j (by omega)) (fun K j z1 z2 => fm K j (by omega) (by omega)) ((c5 6).trans o36) ((c5 7).trans o37)
    have k24 : m5.1 224 T = g.1 224 T := (fm 224 T (by omega) (by omega)).trans (Ms.2.2.2 224 _ (by decide) (by decide))
    have kd := G.2.1 T hT
    have GF : GFX m5 T M tk := ⟨Sm5, ⟨⟨m12, m60⟩, fun k hk => ⟨m74 k hk, (GA k hk).2.1⟩⟩, fun j hj => by
        rw [fm 255 j (by omega) (by omega)]
        exact TI.rng hTm 63 192 0 1 (by decide +kernel) (by decide) (by decide) (i := j) hj, by
        rw [fm 262 T (by omega) (by omega)]
        exact TI.rng hTm 70 6 0 1 (by decide +kernel) (by decide) (by decide) (i := T) T6, by rw [k24]; exact ⟨kd.1, kd.2.1⟩⟩
    have TRm : TRc m5 h5 m5 T st := TRc.to T6 k24 (fun r j z1 z2 => fh r j (by omega)) (fun K j z1 z2 => fm K j (by omega) (by omega)) (RT T hT).1
    have CF : CFX m5 h5 T M tk mo st := ⟨S5, T6, ⟨(c5 9).trans o39, (c5 12).trans o312, by rw [FA5.2, FP4.2]; exact r38⟩, TRm, by rw [c5 6, o36, k24], fun k hk => ⟨(GA k hk).2.2.1, by rw [FA5.2]; exact (p4 k hk).2, (GA k hk).2.2.2, fun j hj => by
        rw [B5 k hk j hj]
        constructor
        · rintro ⟨a, b⟩
          refine ⟨a, ?_⟩
          have := (ah_link (tk := tk) R (g3 j a).2.2 (g3 k hk).2.2 q5 m8).mp (by
            unfold AHs at b ⊢
            have t1 := tk40 j a
            have t2 := tk40 k hk
            rw [o4 _ _ (by omega) (by omega), o3 _ _ (by omega), CG2.1 _ _ (by omega), o4 _ _ (by omega) (by omega), o3 _ _ (by omega), CG2.1 _ _ (by omega)] at b
            exact b)
          unfold AHx at this ⊢
          rw [fm 242 _ (by omega) (by omega), fm 241 _ (by omega) (by omega)]
          exact this
        · rintro ⟨a, b⟩
          refine ⟨a, ?_⟩
          unfold AHx at b
          rw [fm 242 _ (by omega) (by omega), fm 241 _ (by omega) (by omega)] at b
          have := (ah_link (tk := tk) R (g3 j a).2.2 (g3 k hk).2.2 q5 m8).mpr b
          unfold AHs at this ⊢
          have t1 := tk40 j a
          have t2 := tk40 k hk
          rw [o4 _ _ (by omega) (by omega), o3 _ _ (by omega), CG2.1 _ _ (by omega), o4 _ _ (by omega) (by omega), o3 _ _ (by omega), CG2.1 _ _ (by omega)]
          exact this⟩⟩
    have C5 : CAP (m5.1 224 T).toInt h5 s0 0 := by
      rw [k24]
      obtain ⟨b1, b2, b3⟩ := C4
      refine ⟨fun z j hj2 => ?_, fun z => ?_, fun z m hm4 => ?_⟩
      · rw [FA5.1 213 1 (by omega), FA5.1 214 j (by omega)]
        exact b1 z j hj2
      · obtain ⟨e1, e2, e3, e4, e5⟩ := b2 z
        refine ⟨by rw [FA5.1 213 3 (by omega)]; exact e1, e2, fun j hj2 => ?_, by rw [FA5.1 213 4 (by omega)]; exact e4, e5⟩
        rw [FA5.1 213 2 (by omega), FA5.1 214 _ (by omega)]
        exact e3 j hj2
      · rw [FA5.1 214 m (by omega)]
        exact b3 z m hm4
    have D5 : MDE h5 m5 mo := by
      unfold MDE
      rw [c5 11, o311, m64]
      exact ⟨rfl, by decide, hmo.1⟩
    have hJ : ∀ h' : Hp, FCk h5 h' → FJ h h' := fun h' F => ⟨fun r j z => (F.1 r j (by omega) (by omega)).trans (fh r j z), fun r j z1 z2 => by rw [F.2]; exact fh2 r j z1 z2⟩
    have hN : ∀ m' : Hp, FG m5 m' → FN hm m' := fun m' F => ⟨fun K j z1 z2 => (F.1 K j (by omega) (by omega)).trans (fm K j z1 z2), F.2.trans fm2⟩
    have WI := ye_fi_0 S5 T6 (by rw [FA5.2, FP4.2]; exact r38) ec6
    rw [(c5 9).trans o39, eM] at WI
    have WM := zc_se_5 Sm5 em
    rw [m60, eM] at WM
    by_cases M0 : M = 0
    · subst M0
      have e26 : Ev e6 110 (26, [some (.ref 212), some (.int (Int32.ofInt 0)), none, none, none, none], [.ref (5 + 24 * T), .int (h5.1 212 6), .ref 213], h5, fl_tot) (v6, k6', n6) := by
        rcases WI with ⟨-, w⟩ | ⟨y, -⟩ | ⟨y, -⟩
        · exact w
        · exact absurd y (by decide)
        · exact absurd y (by decide)
      obtain ⟨d8, v8, h8, n8, z8, ec8, e8⟩ := b_call (m2 := 111) (k := 2) (nL := 3) (as := [.ref 213, .int (h5.1 212 6), .ref (5 + 24 * T)]) (rest := []) (L := [some (.ref 213), some (.int (h5.1 212 6)), some (.ref (5 + 24 * T))]) e26 (show fl_code 110 26 = some (18, [((111 : Nat) : Int), ((2 : Nat) : Int)], 29) by decide +kernel) rfl (by decide +kernel) rfl rfl rfl
      obtain ⟨x, wx8, IX⟩ := cx_same S5 T6 CF.2.2.2.2.1 GF.2.2.2.2 C5 (by omega) TRm ec8
      obtain ⟨wa, wb, wc⟩ := tri wx8
      rw [wa, wb, wc] at e8
      have em74 : Ev d2 194 (74, [some (.ref 223), some (.int (Int32.ofNat T)), some (.int mo), some (.int (Int32.ofInt 0)), none], [.int (Int32.ofNat T), .ref 223], m5, fl_tot) rm := by
        rcases WM with ⟨y, -⟩ | ⟨-, w⟩
        · exact absurd rfl y
        · exact w
      obtain ⟨d9, v9, h9', n9, z9, ec9, em⟩ := b_call (m2 := 197) (k := 1) (nL := 4) (as := [.ref 223, .int (Int32.ofNat T)]) (rest := []) (L := [some (.ref 223), some (.int (Int32.ofNat T)), none, none]) em74 (show fl_code 194 74 = some (18, [((197 : Nat) : Int), ((1 : Nat) : Int)], 77) by decide +kernel) rfl (by decide +kernel) rfl rfl rfl
      obtain ⟨y, wy, IY⟩ := rx_same (p := 0) Sm5 T6 GF.2.2.2.2 GF.2.2.1 GF.2.2.2.1 (R5 _) (by omega) ec9
      obtain ⟨wa, wb, wc⟩ := tri wy
      rw [wa, wb, wc] at em
      have em : Ev d2 194 (77, [some (.ref 223), some (.int (Int32.ofNat T)), some (.int mo), some (.int (Int32.ofInt 0)), none], [.int y], m5, fl_tot) rm := em
      rcases ye_fi_1 S5 e8 with ⟨x0, w⟩ | ⟨x0, w⟩
      · obtain ⟨wa, wb, wc⟩ := tri w
        rw [wa, wb, wc] at e
        have wr := ye_ju_6 S5 e
        rcases zc_se_6 Sm5 em with ⟨-, wm⟩ | ⟨z, -⟩
        · exact ⟨_, _, _, wr, wm, hJ _ (FCk.refl _), hN _ (FG.refl _), Or.inr (Or.inl (by decide)), fun _ => D5.1, fun z => absurd z (by decide)⟩
        · exact absurd x0 (IX.mpr (IY.mp z))
      · obtain ⟨wa, wb, wc⟩ := tri w
        rw [wa, wb, wc] at e
        have wr := ye_ju_6 S5 e
        rcases zc_se_6 Sm5 em with ⟨z, -⟩ | ⟨-, wm⟩
        · exact absurd z (IY.mpr (IX.mp x0))
        · exact ⟨_, _, _, wr, wm, hJ _ (FCk.refl _), hN _ (FG.refl _), Or.inr (Or.inr (Or.inl (by decide))), fun _ => D5.1, fun _ => ⟨0, tk, tk, by omega, (c5 9).trans o39, m60, fun k hk => by omega, fun d hd => by omega⟩⟩
    · have e40 : Ev e6 110 (40, [some (.ref 212), some (.int (Int32.ofNat 0)), some (.int (Int32.ofNat 0)), none, none, none], [], h5, fl_tot) (v6, k6', n6) := by
        rcases WI with ⟨y, -⟩ | ⟨-, -, w⟩ | ⟨-, y, -⟩
        · have z : (Int32.ofInt 0).toInt = 0 := by decide
          exfalso; omega
        · exact w
        · exact absurd y (by decide)
      have em86 : Ev d2 194 (86, [some (.ref 223), some (.int (Int32.ofNat T)), some (.int mo), some (.int (Int32.ofNat 0)), none], [], m5, fl_tot) rm := by
        rcases WM with ⟨-, w⟩ | ⟨y, -⟩
        · exact w
        · exfalso; omega
      have CQ5 : CQ m5 h5 h5 T tk (fun _ => 0) 0 := ⟨FCk.refl _, fun k hk => by
          rw [c5 10, o310, hb_0]
          exact ⟨fun z => (by cases z), fun ⟨d, hd, _⟩ => absurd hd (Nat.not_lt_zero d)⟩, fun d hd => absurd hd (Nat.not_lt_zero d), C5⟩
      have RQ5 : RQ m5 m5 M (fun _ => 0) 0 0 := ⟨FG.refl _, fun d hd => absurd hd (Nat.not_lt_zero d), fun k hk => by
          rw [m76 k hk]
          exact ⟨fun z => absurd (by decide) z, fun ⟨d, hd, _⟩ => absurd hd (Nat.not_lt_zero d)⟩, m77⟩
      rcases search_l GF CF hmo 200 0 0 (fun _ => 0) h5 m5 _ _ _ _ e6 d2 (v6, k6', n6) rm (by omega) (by omega) (by omega) (fun d hd => absurd hd (Nat.not_lt_zero d)) CQ5 RQ5 D5 e40 em86 with ⟨v, v0, h', m', wr, wm, F1, F2, D', vv, od⟩ | ⟨h', m', oo', wr, C', D', F2, w0, -⟩
      · obtain ⟨wa, wb, wc⟩ := tri wr
        rw [wa, wb, wc] at e
        have wr := ye_ju_6 (by rw [F1.2]; exact S5) e
        refine ⟨v, h', m', wr, wm, hJ _ F1, hN _ F2, by omega, fun _ => D'.1, fun z => ?_⟩
        obtain ⟨pl, hpl⟩ := od z
        refine ⟨M, tk, pl, m12, by rw [F1.1 212 9 (by omega) (by omega), c5 9]; exact o39, by rw [F2.1 223 60 (by omega) (by omega)]; exact m60, fun k hk => ⟨tk40 k hk, by rw [F2.1 274 k (by omega) (by omega)]; exact m74 k hk, by rw [F1.2, FA5.2]; exact (p4 k hk).2⟩, hpl⟩
      · obtain ⟨wa, wb, wc⟩ := tri wr
        rw [wa, wb, wc] at e
        have wr := ye_ju_6 (by rw [C'.1.2]; exact S5) e
        exact ⟨_, h', m', wr, w0 rfl, hJ _ C'.1, hN _ F2, Or.inr (Or.inl (by decide)), fun _ => D'.1, fun z => absurd z (by decide)⟩
