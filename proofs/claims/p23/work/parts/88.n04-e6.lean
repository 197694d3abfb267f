
set_option maxRecDepth 20000
/-! WHAT EXPLORE HAS SEEN: rows on both sides -/
def psm (g : Hp) : Nat → Nat
  | 0 => 0
  | c + 1 => psm g c + qm g c
theorem psm_le {g : Hp} (G : GS g) : ∀ c : Nat, c ≤ qc g → psm g c ≤ 8 * c
  | 0, _ => Nat.le_refl _
  | c + 1, h => by
    have a := psm_le G c (by omega)
    have b := G.m8 (c := c) (by omega)
    show psm g c + qm g c ≤ _
    omega
theorem psm_mono {g : Hp} {c : Nat} : ∀ C : Nat, c ≤ C → psm g c ≤ psm g C
  | 0, h => by rw [show c = 0 by omega]; exact Nat.le_refl _
  | C + 1, h => by
    by_cases z : c = C + 1
    · rw [z]; exact Nat.le_refl _
    · have := psm_mono (g := g) (c := c) C (by omega)
      show _ ≤ psm g C + qm g C
      omega
theorem psm_lt {g : Hp} {c C j : Nat} (h : c < C) (hj : j < qm g c) : psm g c + j < psm g C := by
  have a := psm_mono (g := g) (c := c + 1) C (by omega)
  have b : psm g (c + 1) = psm g c + qm g c := rfl
  omega
theorem psm_inv {g : Hp} : ∀ (C q : Nat), q < psm g C → ∃ c j : Nat, c < C ∧ j < qm g c ∧ q = psm g c + j
  | 0, q, h => by
    have : psm g 0 = 0 := rfl
    omega
  | C + 1, q, h => by
    have e : psm g (C + 1) = psm g C + qm g C := rfl
    by_cases z : q < psm g C
    · obtain ⟨c, j, a1, a2, a3⟩ := psm_inv C q z
      exact ⟨c, j, by omega, a2, a3⟩
    · exact ⟨C, q - psm g C, by omega, by omega, by omega⟩
theorem o32b (n : Nat) : Int32.ofNat n + Int32.ofInt 2 = Int32.ofNat (n + 2) := by
  rw [Int32.ofNat_add]
  rfl
/-- one clerk's answers are written behind -/
theorem yk_in {g : Hp} (G : GS g) {m c d : Nat} {fr : Int32} {r : Option Value × Hp × Nat} (hc : c < qc g) (hm : m ≤ 59) : ∀ (n i : Nat) (h : Hp), qm g c - i < n → i ≤ qm g c → SH h.2 → (h.1 (148 + 12 * c) 3).toInt = qm g c → Ev d 132 (52, [some (.ref 218), some (.int fr), some (.int (Int32.ofNat (80 * m + 2 * (psm g c + i)))), some (.int (Int32.ofNat c)), some (.ref (148 + 12 * c)), some (.int (Int32.ofNat i))], [], h, fl_tot) r → ∃ (h' : Hp) (x : Int32), Ev d 132 (27, [some (.ref 218), some (.int fr), some (.int (Int32.ofNat (80 * m + 2 * psm g (c + 1)))), some (.int (Int32.ofNat (c + 1))), some (.ref (148 + 12 * c)), some (.int x)], [], h', fl_tot) r ∧ (∀ a j : Nat, ¬ (a = 221 ∧ 80 * m + 2 * (psm g c + i) ≤ j) → h'.1 a j = h.1 a j) ∧ h'.2 = h.2 ∧ ∀ j : Nat, i ≤ j → j < qm g c → h'.1 221 (80 * m + 2 * (psm g c + j)) = h.1 (152 + 12 * c + j) 15 ∧ h'.1 221 (80 * m + 2 * (psm g c + j) + 1) = h.1 (152 + 12 * c + j) 16 := by
  intro n
  have m8 := G.m8 hc
  have c5 := G.c5 hc
  have pl := psm_le G c (by omega)
  have ep : psm g (c + 1) = psm g c + qm g c := rfl
  induction n with
  | zero => intro i h h1; omega
  | succ n ih =>
    intro i h h1 h2 S em e
    have ei : (Int32.ofNat i).toInt = i := i32n (by omega)
    have fin : i = qm g c → Ev d 132 (27, [some (.ref 218), some (.int fr), some (.int (Int32.ofNat (80 * m + 2 * (psm g c + i)))), some (.int (Int32.ofNat c + Int32.ofInt 1)), some (.ref (148 + 12 * c)), some (.int (Int32.ofNat i))], [], h, fl_tot) r → ∃ (h' : Hp) (x : Int32), Ev d 132 (27, [some (.ref 218), some (.int fr), some (.int (Int32.ofNat (80 * m + 2 * psm g (c + 1)))), some (.int (Int32.ofNat (c + 1))), some (.ref (148 + 12 * c)), some (.int x)], [], h', fl_tot) r ∧ (∀ a j : Nat, ¬ (a = 221 ∧ 80 * m + 2 * (psm g c + i) ≤ j) → h'.1 a j = h.1 a j) ∧ h'.2 = h.2 ∧ ∀ j : Nat, i ≤ j → j < qm g c → h'.1 221 (80 * m + 2 * (psm g c + j)) = h.1 (152 + 12 * c + j) 15 ∧ h'.1 221 (80 * m + 2 * (psm g c + j) + 1) = h.1 (152 + 12 * c + j) 16 := fun q e => by
      rw [o32 (by omega), q, ← ep] at e
      exact ⟨h, _, e, fun _ _ _ => rfl, rfl, fun j z1 z2 => by omega⟩
    rcases yk_c S c5 e with ⟨q, e⟩ | ⟨q1, q2, e⟩ | ⟨q1, q2, e⟩
    · exact fin (by omega) e
    · omega
    · have hi : i < qm g c := by omega
      obtain ⟨-, -, -, -, e⟩ := yk_d S c5 (show i < 8 by omega) e
      rw [o32 (n := i) (by omega), o32b, o32 (n := 80 * m + 2 * (psm g c + i)) (by omega), o32c (by omega), o32c (by omega), show 80 * m + 2 * (psm g c + i) + 2 = 80 * m + 2 * (psm g c + (i + 1)) by omega] at e
      obtain ⟨h2, eh⟩ : ∃ z, z = fl_setI (fl_setI h 221 (80 * m + 2 * (psm g c + i)) (h.1 (152 + 12 * c + i) 15)) 221 (80 * m + 2 * (psm g c + i) + 1) (h.1 (152 + 12 * c + i) 16) := ⟨_, rfl⟩
      rw [← eh] at e
      have lo : ∀ a j : Nat, ¬ (a = 221 ∧ (j = 80 * m + 2 * (psm g c + i) ∨ j = 80 * m + 2 * (psm g c + i) + 1)) → h2.1 a j = h.1 a j := fun a j z => by rw [eh, setI_no (by omega), setI_no (by omega)]
      obtain ⟨h', x, a1, a2, a3, a4⟩ := ih (i + 1) h2 (by omega) (by omega) (by rw [eh]; exact S) (by rw [lo _ _ (by omega)]; exact em) e
      refine ⟨h', x, a1, fun a j z => by rw [a2 a j (by omega), lo a j (by omega)], by rw [a3, eh]; rfl, fun j z1 z2 => ?_⟩
      by_cases z : j = i
      · subst z
        rw [a2 221 _ (by omega), a2 221 _ (by omega), eh, setI_at, setI_no (by omega), setI_at]
        exact ⟨rfl, rfl⟩
      · obtain ⟨b1, b2⟩ := a4 j (by omega) z2
        rw [b1, b2, lo _ _ (by omega), lo _ _ (by omega)]
        exact ⟨rfl, rfl⟩
/-- all clerks' -/
theorem yk_out {g : Hp} (G : GS g) {m d : Nat} {fr : Int32} {r : Option Value × Hp × Nat} (hm : m ≤ 59) : ∀ (n c : Nat) (h : Hp) (o4 o5 : Option Value), qc g - c < n → c ≤ qc g → SH h.2 → (h.1 1 3).toInt = qc g → (∀ c : Nat, c < qc g → (h.1 (148 + 12 * c) 3).toInt = qm g c) → Ev d 132 (27, [some (.ref 218), some (.int fr), some (.int (Int32.ofNat (80 * m + 2 * psm g c))), some (.int (Int32.ofNat c)), o4, o5], [], h, fl_tot) r → ∃ (h' : Hp) (o4' o5' : Option Value), Ev d 132 (122, [some (.ref 218), some (.int fr), some (.int (Int32.ofNat (80 * m + 2 * psm g (qc g)))), some (.int (Int32.ofNat 0)), o4', o5'], [], h', fl_tot) r ∧ (∀ a j : Nat, ¬ (a = 221 ∧ 80 * m + 2 * psm g c ≤ j) → h'.1 a j = h.1 a j) ∧ h'.2 = h.2 ∧ ∀ c' j : Nat, c ≤ c' → c' < qc g → j < qm g c' → h'.1 221 (80 * m + 2 * (psm g c' + j)) = h.1 (152 + 12 * c' + j) 15 ∧ h'.1 221 (80 * m + 2 * (psm g c' + j) + 1) = h.1 (152 + 12 * c' + j) 16 := by
  intro n
  have q5 := G.1.2.2.1
  have z0 : Int32.ofInt 0 = Int32.ofNat 0 := by decide
  induction n with
  | zero => intro c h o4 o5 h1; omega
  | succ n ih =>
    intro c h o4 o5 h1 h2 S e3 em e
    have ei : (Int32.ofNat c).toInt = c := i32n (by omega)
    rcases yk_a S e with ⟨q, e⟩ | ⟨q, e⟩
    · rw [z0] at e
      have ec : c = qc g := by omega
      refine ⟨h, o4, o5, by rw [← ec]; exact e, fun _ _ _ => rfl, rfl, fun c' j z1 z2 => by omega⟩
    · have hc : c < qc g := by omega
      obtain ⟨-, -, e⟩ := yk_b S (G.c5 hc) e
      rw [z0, show 80 * m + 2 * psm g c = 80 * m + 2 * (psm g c + 0) by omega] at e
      obtain ⟨h2, x, a1, a2, a3, a4⟩ := yk_in G hc hm (qm g c + 1) 0 h (by omega) (by omega) S (em c hc) e
      have l2 : ∀ a j : Nat, a ≠ 221 → h2.1 a j = h.1 a j := fun a j z => a2 a j (by omega)
      obtain ⟨h', o4', o5', b1, b2, b3, b4⟩ := ih (c + 1) h2 _ _ (by omega) (by omega) (by rw [a3]; exact S) (by rw [l2 _ _ (by omega)]; exact e3) (fun c' hc' => by rw [l2 _ _ (by have := G.c5 hc'; omega)]; exact em c' hc') a1
      have ep : psm g (c + 1) = psm g c + qm g c := rfl
      refine ⟨h', o4', o5', b1, fun a j z => by rw [b2 a j (by omega), a2 a j (by omega)], by rw [b3, a3], fun c' j z1 z2 z3 => ?_⟩
      have c5' := G.c5 z2
      by_cases z : c' = c
      · subst z
        obtain ⟨u1, u2⟩ := a4 j (by omega) z3
        rw [b2 221 _ (by omega), b2 221 _ (by omega)]
        exact ⟨u1, u2⟩
      · obtain ⟨u1, u2⟩ := b4 c' j (by omega) z2 z3
        have i8 := G.i8 z2 z3
        rw [u1, u2, l2 _ _ (by omega), l2 _ _ (by omega)]
        exact ⟨rfl, rfl⟩
theorem yk_same {h : Hp} (S : SH h.2) {l q n d : Nat} {r : Option Value × Hp × Nat} (hl : l + n ≤ 9000) (hq : q + n ≤ 9000) (e : Ev d 133 (0, [some (.ref 218), some (.int (Int32.ofNat l)), some (.int (Int32.ofNat q)), some (.int (Int32.ofNat n)), none], [], h, fl_tot) r) : ∃ b : Int32, r = (some (.int b), h, fl_tot) ∧ (b.toInt ≠ 0 ↔ ∀ p : Nat, p < n → h.1 221 (l + p) = h.1 221 (q + p)) := by
  have key : ∀ f i : Nat, n - i < f → i ≤ n → (∀ p : Nat, p < i → h.1 221 (l + p) = h.1 221 (q + p)) → Ev d 133 (3, [some (.ref 218), some (.int (Int32.ofNat l)), some (.int (Int32.ofNat q)), some (.int (Int32.ofNat n)), some (.int (Int32.ofNat i))], [], h, fl_tot) r → ∃ b : Int32, r = (some (.int b), h, fl_tot) ∧ (b.toInt ≠ 0 ↔ ∀ p : Nat, p < n → h.1 221 (l + p) = h.1 221 (q + p)) := by
    intro f
    induction f with
    | zero => intro i h1; omega
    | succ f ih =>
      intro i h1 h2 A e
      have en : (Int32.ofNat n).toInt = n := i32n (by omega)
      have ei : (Int32.ofNat i).toInt = i := i32n (by omega)
      have W := yk_sl S e
      rw [← Int32.ofNat_add, ← Int32.ofNat_add, o32c (by omega), o32c (by omega), o32 (by omega)] at W
      rcases W with ⟨y, w⟩ | ⟨y, z, e⟩ | ⟨y, z, w⟩
      · exact ⟨_, w, iff_of_true (by decide) (fun p hp => A p (by omega))⟩
      · refine ih (i + 1) (by omega) (by omega) (fun p hp => ?_) e
        by_cases k : p = i
        · rw [k]
          exact Int32.toInt_inj.mp z
        · exact A p (by omega)
      · refine ⟨_, w, iff_of_false (fun k => k (by decide)) (fun k => z ?_)⟩
        rw [k i (by omega)]
  have e := yk_s0 S e
  rw [show Int32.ofInt 0 = Int32.ofNat 0 by decide] at e
  exact key (n + 1) 0 (by omega) (by omega) (fun p hp => by omega) e
/-- new, or seen before: the class -/
theorem yk_cmp {h : Hp} (S : SH h.2) {m n d : Nat} {r : Option Value × Hp × Nat} (hm : m ≤ 59) (hn : n ≤ 80) (e6 : h.1 218 6 = Int32.ofNat m) : ∀ (f x : Nat) (o4 o5 : Option Value), m - x < f → x ≤ m → (∀ y : Nat, y < x → ¬ ∀ p : Nat, p < n → h.1 221 (80 * y + p) = h.1 221 (80 * m + p)) → Ev d 132 (122, [some (.ref 218), some (.int (Int32.ofNat (80 * m))), some (.int (Int32.ofNat (80 * m + n))), some (.int (Int32.ofNat x)), o4, o5], [], h, fl_tot) r → (r = (none, fl_setI h 218 6 (Int32.ofNat (m + 1)), fl_tot) ∧ ∀ y : Nat, y < m → ¬ ∀ p : Nat, p < n → h.1 221 (80 * y + p) = h.1 221 (80 * m + p)) ∨ (r = (none, h, fl_tot) ∧ ∃ y : Nat, y < m ∧ ∀ p : Nat, p < n → h.1 221 (80 * y + p) = h.1 221 (80 * m + p)) := by
  intro f
  induction f with
  | zero => intro x o4 o5 h1; omega
  | succ f ih =>
    intro x o4 o5 h1 h2 A e
    have ex : (Int32.ofNat x).toInt = x := i32n (by omega)
    have emm : (Int32.ofNat m).toInt = m := i32n (by omega)
    have W := yk_e S e
    rw [e6] at W
    rcases W with ⟨y, w⟩ | ⟨y, e⟩
    · rw [o32 (by omega)] at w
      exact Or.inl ⟨w, fun z hz => A z (by omega)⟩
    · rw [← Int32.ofNat_sub _ _ (by omega), show 80 * m + n - 80 * m = n by omega, show (Int32.ofNat x * Int32.ofInt 2) * Int32.ofInt 40 = Int32.ofNat (80 * x) from by
        rw [show 80 * x = (x * 2) * 40 by omega, Int32.ofNat_mul, Int32.ofNat_mul]
        rfl] at e
      obtain ⟨d3, v3, h3, n3, z3, ec3, e⟩ := b_call (m2 := 133) (k := 3) (nL := 5) (as := [.ref 218, .int (Int32.ofNat (80 * x)), .int (Int32.ofNat (80 * m)), .int (Int32.ofNat n)]) (rest := []) (L := [some (.ref 218), some (.int (Int32.ofNat (80 * x))), some (.int (Int32.ofNat (80 * m))), some (.int (Int32.ofNat n)), none]) e (show fl_code 132 141 = some (18, [((133 : Nat) : Int), ((3 : Nat) : Int)], 144) by decide +kernel) rfl (by decide +kernel) rfl rfl rfl
      obtain ⟨b, w, bi⟩ := yk_same S (by omega) (by omega) ec3
      obtain ⟨w1, w2, w3⟩ := tri w
      rw [w1, w2, w3] at e
      have e : Ev d 132 (144, [some (.ref 218), some (.int (Int32.ofNat (80 * m))), some (.int (Int32.ofNat (80 * m + n))), some (.int (Int32.ofNat x)), o4, o5], [.int b], h, fl_tot) r := e
      rcases yk_f S e with ⟨b0, e⟩ | ⟨b0, w⟩
      · rw [o32 (by omega)] at e
        refine ih (x + 1) o4 o5 (by omega) (by omega) (fun z hz => ?_) e
        by_cases k : z = x
        · rw [k]
          exact fun q => bi.mpr q b0
        · exact A z (by omega)
      · exact Or.inr ⟨w, x, by omega, bi.mp b0⟩
/-! the reference -/
theorem o32m (a b c d : Nat) : Int32.ofNat a * Int32.ofNat b + Int32.ofNat c * Int32.ofNat d = Int32.ofNat (a * b + c * d) := by rw [Int32.ofNat_add, Int32.ofNat_mul, Int32.ofNat_mul]
theorem zw_rows {k d : Nat} {bd op : Int32} {r : Option Value × Hp × Nat} (hk : k ≤ 59) : ∀ (n x : Nat) (h : Hp) (o5 : Option Value), 40 - x < n → x ≤ 40 → SH h.2 → Ev d 209 (127, [some (.ref 223), some (.int (Int32.ofNat k)), some (.int bd), some (.int op), some (.int (Int32.ofNat x)), o5], [], h, fl_tot) r → ∃ h' : Hp, Ev d 209 (190, [some (.ref 223), some (.int (Int32.ofNat k)), some (.int bd), some (.int op), some (.int (Int32.ofInt 1)), some (.int (Int32.ofNat 0))], [], h', fl_tot) r ∧ (∀ K j : Nat, ¬ (K = 284 ∧ 80 * k + 2 * x ≤ j ∧ j < 80 * k + 80) → h'.1 K j = h.1 K j) ∧ h'.2 = h.2 ∧ ∀ y : Nat, x ≤ y → y < 40 → h'.1 284 (80 * k + 2 * y) = h.1 238 y ∧ h'.1 284 (80 * k + 2 * y + 1) = h.1 239 y := by
  intro n
  induction n with
  | zero => intro x h o5 h1; omega
  | succ n ih =>
    intro x h o5 h1 h2 S e
    have ex : (Int32.ofNat x).toInt = x := i32n (by omega)
    have W := zw_s S e
    rw [show (Int32.ofInt 80) = Int32.ofNat 80 from rfl, show (Int32.ofInt 2) = Int32.ofNat 2 from rfl, o32m, o32 (n := 80 * k + 2 * x) (by omega), o32c (by omega), o32c (by omega), o32c (by omega), o32 (n := x) (by omega)] at W
    rcases W with ⟨q, e⟩ | ⟨q, e⟩
    · rw [show Int32.ofInt 0 = Int32.ofNat 0 by decide] at e
      exact ⟨h, e, fun _ _ _ => rfl, rfl, fun y z1 z2 => by omega⟩
    · obtain ⟨h2, eh⟩ : ∃ z, z = fl_setI (fl_setI h 284 (80 * k + 2 * x) (h.1 238 x)) 284 (80 * k + 2 * x + 1) (h.1 239 x) := ⟨_, rfl⟩
      rw [← eh] at e
      have lo : ∀ a j : Nat, ¬ (a = 284 ∧ (j = 80 * k + 2 * x ∨ j = 80 * k + 2 * x + 1)) → h2.1 a j = h.1 a j := fun a j z => by rw [eh, setI_no (by omega), setI_no (by omega)]
      obtain ⟨h', a1, a2, a3, a4⟩ := ih (x + 1) h2 o5 (by omega) (by omega) (by rw [eh]; exact S) e
      refine ⟨h', a1, fun a j z => by rw [a2 a j (by omega), lo a j (by omega)], by rw [a3, eh]; rfl, fun j z1 z2 => ?_⟩
      by_cases z : j = x
      · subst z
        rw [a2 284 _ (by omega), a2 284 _ (by omega), eh, setI_at, setI_no (by omega), setI_at]
        exact ⟨rfl, rfl⟩
      · obtain ⟨b1, b2⟩ := a4 j (by omega) z2
        rw [b1, b2, lo _ _ (by omega), lo _ _ (by omega)]
        exact ⟨rfl, rfl⟩
theorem zw_dif {h : Hp} (S : SH h.2) {a b d : Nat} {r : Option Value × Hp × Nat} (ha : a ≤ 59) (hb : b ≤ 59) (e : Ev d 210 (0, [some (.ref 223), some (.int (Int32.ofNat a)), some (.int (Int32.ofNat b)), none], [], h, fl_tot) r) : ∃ v : Int32, r = (some (.int v), h, fl_tot) ∧ (v.toInt = 0 ↔ ∀ p : Nat, p < 80 → h.1 284 (80 * a + p) = h.1 284 (80 * b + p)) := by
  have key : ∀ f i : Nat, 80 - i < f → i ≤ 80 → (∀ p : Nat, p < i → h.1 284 (80 * a + p) = h.1 284 (80 * b + p)) → Ev d 210 (2, [some (.ref 223), some (.int (Int32.ofNat a)), some (.int (Int32.ofNat b)), some (.int (Int32.ofNat i))], [], h, fl_tot) r → ∃ v : Int32, r = (some (.int v), h, fl_tot) ∧ (v.toInt = 0 ↔ ∀ p : Nat, p < 80 → h.1 284 (80 * a + p) = h.1 284 (80 * b + p)) := by
    intro f
    induction f with
    | zero => intro i h1; omega
    | succ f ih =>
      intro i h1 h2 A e
      have ei : (Int32.ofNat i).toInt = i := i32n (by omega)
      have W := zw_dl S e
      rw [show (Int32.ofInt 80) = Int32.ofNat 80 from rfl, ← Int32.ofNat_mul, ← Int32.ofNat_mul, ← Int32.ofNat_add, ← Int32.ofNat_add, o32c (by omega), o32c (by omega), o32 (by omega)] at W
      rcases W with ⟨y, w⟩ | ⟨y, z, e⟩ | ⟨y, z, w⟩
      · exact ⟨_, w, iff_of_true (by decide) (fun p hp => A p (by omega))⟩
      · refine ih (i + 1) (by omega) (by omega) (fun p hp => ?_) e
        by_cases k : p = i
        · rw [k]
          exact Int32.toInt_inj.mp z
        · exact A p (by omega)
      · refine ⟨_, w, iff_of_false (by decide) (fun k => z ?_)⟩
        rw [k i (by omega)]
  have e := zw_d0 S e
  rw [show Int32.ofInt 0 = Int32.ofNat 0 by decide] at e
  exact key 81 0 (by omega) (by omega) (fun p hp => by omega) e
theorem zw_cmp {h : Hp} (S : SH h.2) {k d : Nat} {bd op : Int32} {r : Option Value × Hp × Nat} (hk : k ≤ 59) : ∀ (f x : Nat) (ot : Int32), k - x < f → x ≤ k → (ot.toInt ≠ 0 → ∀ y : Nat, y < x → ¬ ∀ p : Nat, p < 80 → h.1 284 (80 * k + p) = h.1 284 (80 * y + p)) → (ot.toInt = 0 → ∃ y : Nat, y < k ∧ ∀ p : Nat, p < 80 → h.1 284 (80 * k + p) = h.1 284 (80 * y + p)) → Ev d 209 (190, [some (.ref 223), some (.int (Int32.ofNat k)), some (.int bd), some (.int op), some (.int ot), some (.int (Int32.ofNat x))], [], h, fl_tot) r → (r = (none, fl_setI h 273 4 (h.1 273 4 + Int32.ofInt 1), fl_tot) ∧ ∀ y : Nat, y < k → ¬ ∀ p : Nat, p < 80 → h.1 284 (80 * k + p) = h.1 284 (80 * y + p)) ∨ (r = (none, fl_setI h 273 4 (h.1 273 4 + Int32.ofInt 0), fl_tot) ∧ ∃ y : Nat, y < k ∧ ∀ p : Nat, p < 80 → h.1 284 (80 * k + p) = h.1 284 (80 * y + p)) := by
  intro f
  induction f with
  | zero => intro x ot h1; omega
  | succ f ih =>
    intro x ot h1 h2 A B e
    have ex : (Int32.ofNat x).toInt = x := i32n (by omega)
    have ek : (Int32.ofNat k).toInt = k := i32n (by omega)
    have fin : (ot.toInt ≠ 0 → x = k) → Ev d 209 (216, [some (.ref 223), some (.int (Int32.ofNat k)), some (.int bd), some (.int op), some (.int ot), some (.int (Int32.ofNat x))], [], h, fl_tot) r → (r = (none, fl_setI h 273 4 (h.1 273 4 + Int32.ofInt 1), fl_tot) ∧ ∀ y : Nat, y < k → ¬ ∀ p : Nat, p < 80 → h.1 284 (80 * k + p) = h.1 284 (80 * y + p)) ∨ (r = (none, fl_setI h 273 4 (h.1 273 4 + Int32.ofInt 0), fl_tot) ∧ ∃ y : Nat, y < k ∧ ∀ p : Nat, p < 80 → h.1 284 (80 * k + p) = h.1 284 (80 * y + p)) := fun q e => by
      rcases zw_f S e with ⟨o, w⟩ | ⟨o, w⟩
      · exact Or.inr ⟨w, B o⟩
      · refine Or.inl ⟨w, fun y hy => A o y (by have := q o; omega)⟩
    rcases zw_r S e with ⟨q, e⟩ | ⟨q, o, e⟩ | ⟨q, o, e⟩
    · exact fin (fun _ => by omega) e
    · exact fin (fun z => absurd o z) e
    · obtain ⟨d3, v3, h3, n3, z3, ec3, e⟩ := b_call (m2 := 210) (k := 2) (nL := 4) (as := [.ref 223, .int (Int32.ofNat k), .int (Int32.ofNat x)]) (rest := []) (L := [some (.ref 223), some (.int (Int32.ofNat k)), some (.int (Int32.ofNat x)), none]) e (show fl_code 209 205 = some (18, [((210 : Nat) : Int), ((2 : Nat) : Int)], 208) by decide +kernel) rfl (by decide +kernel) rfl rfl rfl
      obtain ⟨v, w, vi⟩ := zw_dif S hk (by omega) ec3
      obtain ⟨w1, w2, w3⟩ := tri w
      rw [w1, w2, w3] at e
      have e : Ev d 209 (208, [some (.ref 223), some (.int (Int32.ofNat k)), some (.int bd), some (.int op), some (.int ot), some (.int (Int32.ofNat x))], [.int v], h, fl_tot) r := e
      have e := zw_q S e
      rw [o32 (by omega)] at e
      have n1 : k - (x + 1) < f := by clear B vi; omega
      have n2 : x + 1 ≤ k := by clear B vi; omega
      refine ih (x + 1) v n1 n2 (fun v0 z hz => ?_) (fun v0 => ⟨x, n2, vi.mp v0⟩) e
      by_cases kk : z = x
      · rw [kk]
        exact fun q => v0 (vi.mpr q)
      · exact A o z (Nat.lt_of_le_of_ne (Nat.le_of_lt_succ hz) kk)
