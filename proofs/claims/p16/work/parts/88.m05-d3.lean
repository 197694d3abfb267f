
set_option maxRecDepth 20000
/-! IS THE PICTURE WHAT THE TRAY HAS, ON BOTH SIDES -/
theorem an31e {k : Nat} (hk : k < 32) : Int32.ofNat k &&& Int32.ofInt 31 = Int32.ofNat k := of_decide_eq_true (List.all_eq_true.mp (show ((List.range 32).all fun k => decide (Int32.ofNat k &&& Int32.ofInt 31 = Int32.ofNat k)) = true by decide +kernel) k (List.mem_range.mpr hk))
theorem hb_ext {x y : Int32} (e : ∀ j : Nat, j < 32 → hb x j = hb y j) : x = y := Int32.toBitVec_inj.1 (BitVec.eq_of_getLsbD_eq fun i hi => e i hi)
/-- the key j is alike -/
def smK (hm : Hp) (T : Nat) (f : KV) (j : Nat) : Prop := ((f j).isSome = true ↔ (hm.1 255 (32 * T + j)).toInt ≠ 0) ∧ ∀ v : Int32, f j = some v → v = hm.1 256 (32 * T + j)
def SMk (hm : Hp) (T : Nat) (f : KV) : Prop := ∀ j : Nat, j < 32 → smK hm T f j
def SMq (hm : Hp) (T : Nat) (l : List Int32) (n : Nat) : Prop := (l.length : Int) = (hm.1 261 T).toInt ∧ (0 < n ↔ (hm.1 262 T).toInt ≠ 0) ∧ ∀ j : Nat, j < l.length → l[j]? = some (hm.1 260 (48 * T + j))
theorem bx (w : Int32) (P : Prop) (h1 : w.toInt ≠ 0 → P) (h2 : P → w.toInt ≠ 0) : w.toInt ≠ 0 ↔ P := ⟨h1, h2⟩
/-! keys, the reference -/
theorem zk_loop {d T : Nat} {hm : Hp} {f : KV} {r : Option Value × Hp × Nat} (S : SH hm.2) (B1 : ∀ j : Nat, j < 192 → 0 ≤ (hm.1 255 j).toInt ∧ (hm.1 255 j).toInt ≤ 1) (ht : T < 6) (C : RAk hm f) : ∀ (n k : Nat) (w : Int32), k ≤ 32 → 32 - k < n → (w.toInt ≠ 0 ↔ ∀ j : Nat, j < k → smK hm T f j) → Ev d 197 (195, [some (.ref 223), some (.int (Int32.ofNat T)), some (.int w), some (.int (Int32.ofNat k))], [], hm, fl_tot) r → ∃ v : Int32, r = (some (.int v), hm, fl_tot) ∧ (v.toInt ≠ 0 ↔ SMk hm T f)
  | 0, k, w, hk, hn, I, e => by omega
  | n + 1, k, w, hk, hn, I, e => by
    have ek := i32n (n := k) (by omega)
    have ekn : (Int32.ofNat k).toNatClampNeg = k := o32c (by omega)
    have eT := i32n (n := T) (by omega)
    have eTn : (Int32.ofNat T).toNatClampNeg = T := o32c (by omega)
    have ix : (((Int32.ofInt 32) * (Int32.ofNat T)) + (Int32.ofNat k)).toNatClampNeg = 32 * T + k := by
      have := xNn (N := 32) (c := Int32.ofNat T) (n := Int32.ofNat k) (by omega) (by omega) (by omega) (by omega) (by omega)
      rw [eTn, ekn] at this
      exact this
    rcases zc_al_k S e with ⟨q0, e⟩ | ⟨q0, q1, e⟩ | ⟨q0, q1, q2, e⟩ | ⟨q0, q1, q2, q3, e⟩ | ⟨q0, q1, q2, q3, q4, e⟩ | ⟨q0, q1, q2, q3, q4, e⟩
    · have k1 : k = 32 := by omega
      subst k1
      exact ⟨w, zc_al_kx S e, I⟩
    · refine ⟨w, zc_al_kx S e, fun z => absurd q1 z, fun z => ?_⟩
      exact I.mpr (fun j hj => z j (by omega))
    · have b := B1 (32 * T + k) (by omega)
      have e := zc_al_ki S e
      rw [o32 (by omega)] at e
      rw [ekn, ix] at q2
      refine zk_loop S B1 ht C n (k + 1) _ (by omega) (by omega) ⟨fun z => absurd rfl z, fun z => ?_⟩ e
      exfalso
      have s := (z k (by omega)).1
      rw [(C k (by omega)).1] at q2
      cases y : f k with
      | none =>
        rw [y] at q2 s
        have u : (hm.1 255 (32 * T + k)).toInt ≠ 0 := fun a => q2 (by rw [a]; rfl)
        have := s.mpr u
        cases this
      | some v =>
        rw [y] at q2 s
        have u := s.mp rfl
        have b2 : (bI (some v)).toInt = 1 := show (Int32.ofInt 1).toInt = 1 by decide
        have b3 : 0 ≤ (hm.1 255 (32 * T + k)).toInt ∧ (hm.1 255 (32 * T + k)).toInt ≤ 1 := b
        omega
    · have e := zc_al_ki S e
      rw [o32 (by omega)] at e
      rw [ekn, ix] at q2
      rw [ekn] at q3
      have y : f k = none := by
        cases y : f k with
        | none => rfl
        | some v =>
          rw [(C k (by omega)).1, y] at q3
          exact absurd q3 (show (Int32.ofInt 1).toInt ≠ 0 by decide)
      refine zk_loop S B1 ht C n (k + 1) _ (by omega) (by omega) ⟨fun _ j hj => ?_, fun _ => by decide⟩ e
      by_cases z : j = k
      · subst z
        refine ⟨?_, fun v hv => by rw [y] at hv; cases hv⟩
        rw [y]
        exact ⟨fun a => (by cases a), fun a => absurd (q2.symm.trans q3) a⟩
      · exact I.mp q1 j (by omega)
    · have e := zc_al_ki S e
      rw [o32 (by omega)] at e
      rw [ekn, ix] at q4
      rw [ekn] at q3
      have y : ∃ v, f k = some v := by
        cases y : f k with
        | none =>
          rw [(C k (by omega)).1, y] at q3
          exact absurd rfl q3
        | some v => exact ⟨v, rfl⟩
      obtain ⟨v, y⟩ := y
      refine zk_loop S B1 ht C n (k + 1) _ (by omega) (by omega) ⟨fun z => absurd rfl z, fun z => ?_⟩ e
      have s := (z k (by omega)).2 v y
      rw [(C k (by omega)).2 v y, s] at q4
      exact absurd rfl q4
    · have e := zc_al_ki S e
      rw [o32 (by omega)] at e
      rw [ekn, ix] at q4 q2
      rw [ekn] at q3
      have y : ∃ v, f k = some v := by
        cases y : f k with
        | none =>
          rw [(C k (by omega)).1, y] at q3
          exact absurd rfl q3
        | some v => exact ⟨v, rfl⟩
      obtain ⟨v, y⟩ := y
      refine zk_loop S B1 ht C n (k + 1) _ (by omega) (by omega) ⟨fun _ j hj => ?_, fun _ => by decide⟩ e
      by_cases z : j = k
      · subst z
        refine ⟨⟨fun _ => by rw [← q2]; exact q3, fun _ => by rw [y]; rfl⟩, fun u hu => ?_⟩
        rw [← (C j (by omega)).2 u hu]
        exact Int32.toInt_inj.mp q4
      · exact I.mp q1 j (by omega)
theorem z_alk {d T : Nat} {hm : Hp} {f : KV} {r : Option Value × Hp × Nat} (S : SH hm.2) (B1 : ∀ j : Nat, j < 192 → 0 ≤ (hm.1 255 j).toInt ∧ (hm.1 255 j).toInt ≤ 1) (ht : T < 6) (hk : (hm.1 224 T).toInt = 0 ∨ (hm.1 224 T).toInt = 4 ∨ (hm.1 224 T).toInt = 5) (C : RAk hm f) (e : Ev d 197 (0, [some (.ref 223), some (.int (Int32.ofNat T)), none, none], [], hm, fl_tot) r) : ∃ v : Int32, r = (some (.int v), hm, fl_tot) ∧ (v.toInt ≠ 0 ↔ SMk hm T f) := by
  have eTn : (Int32.ofNat T).toNatClampNeg = T := o32c (by omega)
  have e1 : Ev d 197 (195, [some (.ref 223), some (.int (Int32.ofNat T)), some (.int (Int32.ofInt 1)), some (.int (Int32.ofInt 0))], [], hm, fl_tot) r := by
    rcases hk with hk | hk | hk
    · exact (zc_al_0 S (by rw [eTn]; exact hk) e).2.2.2
    · exact (zc_al_4 S (by rw [eTn]; exact hk) e).2.2.2
    · exact (zc_al_5 S (by rw [eTn]; exact hk) e).2.2.2
  exact zk_loop S B1 ht C 33 0 _ (by omega) (by omega) ⟨fun _ j hj => by omega, fun _ => by decide⟩ e1
/-! keys, the class -/
theorem xk_loop2 {d T : Nat} {h hm : Hp} {f : KV} {r : Option Value × Hp × Nat} (S : SH h.2) (ht : T < 6) (C : CAk h f) (TR : TRk h hm T) (HE : h.1 213 1 = h.1 (5 + 24 * T) 1) : ∀ (n k : Nat), k ≤ 32 → 32 - k < n → (∀ j : Nat, j < k → smK hm T f j) → Ev d 113 (15, [some (.ref 213), some (.ref (5 + 24 * T)), some (.int (Int32.ofNat k))], [], h, fl_tot) r → ∃ v : Int32, r = (some (.int v), h, fl_tot) ∧ (v.toInt ≠ 0 ↔ SMk hm T f)
  | 0, k, hk, hn, I, e => by omega
  | n + 1, k, hk, hn, I, e => by
    have ek := i32n (n := k) (by omega)
    have ekn : (Int32.ofNat k).toNatClampNeg = k := o32c (by omega)
    have bits : ∀ j : Nat, j < 32 → ((f j).isSome = true ↔ (hm.1 255 (32 * T + j)).toInt ≠ 0) := fun j hj => by
      rw [← (C j hj).1, HE]
      exact (TR j hj).1
    rcases ye_sk_l S ht e with ⟨q0, w⟩ | ⟨q0, q1, e⟩ | ⟨q0, q1, q2, e⟩ | ⟨q0, q1, q2, w⟩
    · have k1 : k = 32 := by omega
      subst k1
      exact ⟨_, w, fun _ => I, fun _ => by decide⟩
    · have e := ye_sk_i S ht e
      rw [o32 (by omega)] at e
      have nb := (hb_iff0 (by omega)).mp q1
      refine xk_loop2 S ht C TR HE n (k + 1) (by omega) (by omega) (fun j hj => ?_) e
      by_cases z : j = k
      · subst z
        refine ⟨bits j (by omega), fun v hv => ?_⟩
        have := (C j (by omega)).1.mpr (by rw [hv]; rfl)
        rw [nb] at this
        cases this
      · exact I j (by omega)
    · have e := ye_sk_i S ht e
      rw [o32 (by omega)] at e
      have nb := (hb_iff (by omega)).mp q1
      rw [ekn] at q2
      have b1 := (C k (by omega)).1.mp nb
      refine xk_loop2 S ht C TR HE n (k + 1) (by omega) (by omega) (fun j hj => ?_) e
      by_cases z : j = k
      · subst z
        refine ⟨bits j (by omega), fun v hv => ?_⟩
        rw [← (C j (by omega)).2 v hv, ← (TR j (by omega)).2 ((bits j (by omega)).mp b1)]
        exact Int32.toInt_inj.mp q2
      · exact I j (by omega)
    · have nb := (hb_iff (by omega)).mp q1
      rw [ekn] at q2
      have b1 := (C k (by omega)).1.mp nb
      refine ⟨_, w, fun z => absurd rfl z, fun z => ?_⟩
      exfalso
      apply q2
      cases y : f k with
      | none => rw [y] at b1; cases b1
      | some v =>
        rw [(C k (by omega)).2 v y, (z k (by omega)).2 v y, (TR k (by omega)).2 ((bits k (by omega)).mp b1)]
theorem x_alk {d T : Nat} {h hm : Hp} {f : KV} {r : Option Value × Hp × Nat} (S : SH h.2) (ht : T < 6) (C : CAk h f) (TR : TRk h hm T) (e : Ev d 113 (0, [some (.ref 213), some (.ref (5 + 24 * T)), none], [], h, fl_tot) r) : ∃ v : Int32, r = (some (.int v), h, fl_tot) ∧ (v.toInt ≠ 0 ↔ SMk hm T f) := by
  rcases ye_sk_0 S ht e with ⟨q0, e⟩ | ⟨q0, w⟩
  · exact xk_loop2 S ht C TR (Int32.toInt_inj.mp q0) 33 0 (by omega) (by omega) (fun j hj => by omega) e
  · refine ⟨_, w, fun z => absurd rfl z, fun z => ?_⟩
    exfalso
    apply q0
    have : h.1 213 1 = h.1 (5 + 24 * T) 1 := hb_ext fun j hj => by
      have a := (C j hj).1
      have b := (TR j hj).1
      have c := (z j hj).1
      have e : hb (h.1 213 1) j = true ↔ hb (h.1 (5 + 24 * T) 1) j = true := a.trans (c.trans b.symm)
      cases x : hb (h.1 213 1) j <;> cases y : hb (h.1 (5 + 24 * T) 1) j <;> simp [x, y] at e ⊢
    rw [this]
/-! rows, the reference -/
theorem zr_loop2 {d T n0 p : Nat} {hm : Hp} {l : List Int32} {r : Option Value × Hp × Nat} (S : SH hm.2) (ht : T < 6) (hp : p ≤ 12) (C : RAq hm l n0 p) : ∀ (n k : Nat) (w : Int32), k ≤ l.length → l.length - k < n → (w.toInt ≠ 0 ↔ ((l.length : Int) = (hm.1 261 T).toInt ∧ (0 < n0 ↔ (hm.1 262 T).toInt ≠ 0)) ∧ ∀ j : Nat, j < k → l[j]? = some (hm.1 260 (48 * T + j))) → Ev d 197 (70, [some (.ref 223), some (.int (Int32.ofNat T)), some (.int w), some (.int (Int32.ofNat k))], [], hm, fl_tot) r → ∃ v : Int32, r = (some (.int v), hm, fl_tot) ∧ (v.toInt ≠ 0 ↔ SMq hm T l n0)
  | 0, k, w, hk, hn, I, e => by omega
  | n + 1, k, w, hk, hn, I, e => by
    have L := (C.ln hp).1
    have c2 := C.2.1
    have ek := i32n (n := k) (by omega)
    have ekn : (Int32.ofNat k).toNatClampNeg = k := o32c (by omega)
    have eT := i32n (n := T) (by omega)
    have eTn : (Int32.ofNat T).toNatClampNeg = T := o32c (by omega)
    have ix : (((Int32.ofInt 48) * (Int32.ofNat T)) + (Int32.ofNat k)).toNatClampNeg = 48 * T + k := by
      have := xNn (N := 48) (c := Int32.ofNat T) (n := Int32.ofNat k) (by omega) (by omega) (by omega) (by omega) (by omega)
      rw [eTn, ekn] at this
      exact this
    rcases zc_al_r S e with ⟨q0, e⟩ | ⟨q0, q1, e⟩ | ⟨q0, q1, q2, e⟩ | ⟨q0, q1, q2, e⟩
    · have k1 : k = l.length := by omega
      subst k1
      exact ⟨w, zc_al_rx S e, fun z => ⟨(I.mp z).1.1, (I.mp z).1.2, (I.mp z).2⟩, fun z => I.mpr ⟨⟨z.1, z.2.1⟩, z.2.2⟩⟩
    · exact ⟨w, zc_al_rx S e, fun z => absurd q1 z, fun z => I.mpr ⟨⟨z.1, z.2.1⟩, fun j hj => z.2.2 j (by omega)⟩⟩
    · have e := zc_al_ri S e
      rw [o32 (by omega)] at e
      rw [ekn, ix] at q2
      have ck := C.2.2.1 k (by omega)
      refine zr_loop2 S ht hp C n (k + 1) _ (by omega) (by omega) ⟨fun z => absurd rfl z, fun z => ?_⟩ e
      have y := z.2 k (by omega)
      rw [ck] at y
      have y2 : hm.1 280 k = hm.1 260 (48 * T + k) := Option.some.inj y
      rw [y2] at q2
      exact absurd rfl q2
    · have e := zc_al_ri S e
      rw [o32 (by omega)] at e
      rw [ekn, ix] at q2
      have ck := C.2.2.1 k (by omega)
      refine zr_loop2 S ht hp C n (k + 1) _ (by omega) (by omega) ⟨fun _ => ⟨(I.mp q1).1, fun j hj => ?_⟩, fun _ => by decide⟩ e
      by_cases z : j = k
      · rw [z, ck, Int32.toInt_inj.mp q2]
      · exact (I.mp q1).2 j (by omega)
theorem z_alq {d T n0 p : Nat} {hm : Hp} {l : List Int32} {r : Option Value × Hp × Nat} (S : SH hm.2) (b : 0 ≤ (hm.1 262 T).toInt ∧ (hm.1 262 T).toInt ≤ 1) (ht : T < 6) (hk : (hm.1 224 T).toInt = 1 ∨ (hm.1 224 T).toInt = 2) (hp : p ≤ 12) (C : RAq hm l n0 p) (e : Ev d 197 (0, [some (.ref 223), some (.int (Int32.ofNat T)), none, none], [], hm, fl_tot) r) : ∃ v : Int32, r = (some (.int v), hm, fl_tot) ∧ (v.toInt ≠ 0 ↔ SMq hm T l n0) := by
  have eTn : (Int32.ofNat T).toNatClampNeg = T := o32c (by omega)
  obtain ⟨L1, L2⟩ := C.ln hp
  have E : ((hm.1 223 68).toInt ≠ (hm.1 261 T).toInt ∧ Ev d 197 (70, [some (.ref 223), some (.int (Int32.ofNat T)), some (.int (Int32.ofInt 0)), some (.int (Int32.ofInt 0))], [], hm, fl_tot) r) ∨ ((hm.1 223 68).toInt = (hm.1 261 T).toInt ∧ (hm.1 223 69).toInt ≠ (hm.1 262 T).toInt ∧ Ev d 197 (70, [some (.ref 223), some (.int (Int32.ofNat T)), some (.int (Int32.ofInt 0)), some (.int (Int32.ofInt 0))], [], hm, fl_tot) r) ∨ ((hm.1 223 68).toInt = (hm.1 261 T).toInt ∧ (hm.1 223 69).toInt = (hm.1 262 T).toInt ∧ Ev d 197 (70, [some (.ref 223), some (.int (Int32.ofNat T)), some (.int (Int32.ofInt 1)), some (.int (Int32.ofInt 0))], [], hm, fl_tot) r) := by
    rcases hk with hk | hk
    · have w := zc_al_1 S (by rw [eTn]; exact hk) e
      rw [eTn] at w
      rcases w with ⟨-, a, e⟩ | ⟨-, a, c, e⟩ | ⟨-, a, c, e⟩
      · exact Or.inl ⟨a, e⟩
      · exact Or.inr (Or.inl ⟨a, c, e⟩)
      · exact Or.inr (Or.inr ⟨a, c, e⟩)
    · have w := zc_al_2 S (by rw [eTn]; exact hk) e
      rw [eTn] at w
      rcases w with ⟨-, -, a, e⟩ | ⟨-, -, a, c, e⟩ | ⟨-, -, a, c, e⟩
      · exact Or.inl ⟨a, e⟩
      · exact Or.inr (Or.inl ⟨a, c, e⟩)
      · exact Or.inr (Or.inr ⟨a, c, e⟩)
  have cl : (hm.1 223 69).toInt = (hm.1 262 T).toInt ↔ (0 < n0 ↔ (hm.1 262 T).toInt ≠ 0) := by
    rw [L2]
    split <;> omega
  rcases E with ⟨a, e⟩ | ⟨a, c, e⟩ | ⟨a, c, e⟩
  · exact zr_loop2 S ht hp C (l.length + 1) 0 _ (by omega) (by omega) ⟨fun z => absurd rfl z, fun z => absurd (L1.trans z.1.1) a⟩ e
  · exact zr_loop2 S ht hp C (l.length + 1) 0 _ (by omega) (by omega) ⟨fun z => absurd rfl z, fun z => absurd (cl.mpr z.1.2) c⟩ e
  · exact zr_loop2 S ht hp C (l.length + 1) 0 _ (by omega) (by omega) ⟨fun _ => ⟨⟨L1.symm.trans a, cl.mp c⟩, fun j hj => by omega⟩, fun _ => by decide⟩ e
/-! rows, the class -/
theorem xr_loop2 {d T n0 p : Nat} {h hm : Hp} {b : Int} {l : List Int32} {r : Option Value × Hp × Nat} (S : SH h.2) (ht : T < 6) (hp : p ≤ 12) (C : CAq h l n0 p) (TR : TRq h hm T b) (LE' : (l.length : Int) = (hm.1 261 T).toInt) (CL : 0 < n0 ↔ (hm.1 262 T).toInt ≠ 0) : ∀ (n k : Nat), k ≤ l.length → l.length - k < n → (∀ j : Nat, j < k → l[j]? = some (hm.1 260 (48 * T + j))) → Ev d 112 (42, [some (.ref 213), some (.ref (5 + 24 * T)), some (.int (Int32.ofNat k))], [], h, fl_tot) r → ∃ v : Int32, r = (some (.int v), h, fl_tot) ∧ (v.toInt ≠ 0 ↔ SMq hm T l n0)
  | 0, k, hk, hn, I, e => by omega
  | n + 1, k, hk, hn, I, e => by
    have L := (C.ln hp).1
    have c2 := C.2.1
    have ek := i32n (n := k) (by omega)
    rcases ye_sr_l S ht e with ⟨q0, w⟩ | ⟨q0, q1, e⟩ | ⟨q0, q1, w⟩
    · have k1 : k = l.length := by omega
      subst k1
      exact ⟨_, w, fun _ => ⟨LE', CL, I⟩, fun _ => by decide⟩
    · have e := ye_sr_i S ht e
      rw [o32 (by omega)] at e
      have ck := C.2.2.1 k (by omega)
      have tk := TR.2.1 k (by omega)
      refine xr_loop2 S ht hp C TR LE' CL n (k + 1) (by omega) (by omega) (fun j hj => ?_) e
      by_cases z : j = k
      · rw [z, ck, ← tk]
        exact congrArg some (Int32.toInt_inj.mp q1)
      · exact I j (by omega)
    · have ck := C.2.2.1 k (by omega)
      have tk := TR.2.1 k (by omega)
      refine ⟨_, w, fun z => absurd rfl z, fun z => ?_⟩
      have y := z.2.2 k (by omega)
      rw [ck, ← tk] at y
      exact absurd (congrArg Int32.toInt (Option.some.inj y)) q1
theorem x_alq {d T n0 p : Nat} {h hm : Hp} {b : Int} {l : List Int32} {r : Option Value × Hp × Nat} (S : SH h.2) (ht : T < 6) (hp : p ≤ 12) (C : CAq h l n0 p) (TR : TRq h hm T b) (e : Ev d 112 (0, [some (.ref 213), some (.ref (5 + 24 * T)), none], [], h, fl_tot) r) : ∃ v : Int32, r = (some (.int v), h, fl_tot) ∧ (v.toInt ≠ 0 ↔ SMq hm T l n0) := by
  obtain ⟨L1, L2⟩ := C.ln hp
  obtain ⟨t1, t2, t3, t4⟩ := id TR
  rcases ye_sr_0 S ht e with ⟨q0, w⟩ | ⟨q0, q1, q2, e⟩ | ⟨q0, q1, q2, w⟩ | ⟨q0, q1, q2, w⟩ | ⟨q0, q1, q2, e⟩
  · refine ⟨_, w, fun z => absurd rfl z, fun z => ?_⟩
    rw [t1] at q0
    exact absurd (L1.trans z.1) q0
  · rw [t1] at q0
    exact xr_loop2 S ht hp C TR (L1.symm.trans q0) ⟨fun z => by omega, fun z => absurd (t4.mpr z) (by omega)⟩ (l.length + 1) 0 (by omega) (by omega) (fun j hj => by omega) e
  · refine ⟨_, w, fun z => absurd rfl z, fun z => ?_⟩
    have := z.2.1.mpr (t4.mp q2)
    omega
  · refine ⟨_, w, fun z => absurd rfl z, fun z => ?_⟩
    have := t4.mpr (z.2.1.mp (by omega))
    omega
  · rw [t1] at q0
    exact xr_loop2 S ht hp C TR (L1.symm.trans q0) ⟨fun _ => t4.mp q2, fun _ => by omega⟩ (l.length + 1) 0 (by omega) (by omega) (fun j hj => by omega) e
/-! sums -/
def SMs (hm : Hp) (T : Nat) (g : Nat → Int32) : Prop := (g 0 + g 1 + g 2 + g 3).toInt = (hm.1 263 (4 * T) + hm.1 263 (4 * T + 1) + hm.1 263 (4 * T + 2) + hm.1 263 (4 * T + 3)).toInt
theorem ix4 {T : Nat} (ht : T < 6) : ((Int32.ofInt 4) * (Int32.ofNat T)).toNatClampNeg = 4 * T ∧ (((Int32.ofInt 4) * (Int32.ofNat T)) + (Int32.ofInt 1)).toNatClampNeg = 4 * T + 1 ∧ (((Int32.ofInt 4) * (Int32.ofNat T)) + (Int32.ofInt 2)).toNatClampNeg = 4 * T + 2 ∧ (((Int32.ofInt 4) * (Int32.ofNat T)) + (Int32.ofInt 3)).toNatClampNeg = 4 * T + 3 := of_decide_eq_true (List.all_eq_true.mp (show ((List.range 6).all fun T => decide (((Int32.ofInt 4) * (Int32.ofNat T)).toNatClampNeg = 4 * T ∧ (((Int32.ofInt 4) * (Int32.ofNat T)) + (Int32.ofInt 1)).toNatClampNeg = 4 * T + 1 ∧ (((Int32.ofInt 4) * (Int32.ofNat T)) + (Int32.ofInt 2)).toNatClampNeg = 4 * T + 2 ∧ (((Int32.ofInt 4) * (Int32.ofNat T)) + (Int32.ofInt 3)).toNatClampNeg = 4 * T + 3)) = true by decide +kernel) T (List.mem_range.mpr ht))
theorem z_als {d T : Nat} {hm : Hp} {g : Nat → Int32} {r : Option Value × Hp × Nat} (S : SH hm.2) (ht : T < 6) (hk : (hm.1 224 T).toInt = 3) (C : RAs hm g) (e : Ev d 197 (0, [some (.ref 223), some (.int (Int32.ofNat T)), none, none], [], hm, fl_tot) r) : ∃ v : Int32, r = (some (.int v), hm, fl_tot) ∧ (v.toInt ≠ 0 ↔ SMs hm T g) := by
  have eTn : (Int32.ofNat T).toNatClampNeg = T := o32c (by omega)
  obtain ⟨i0, i1, i2, i3⟩ := ix4 ht
  unfold SMs
  rw [← C 0 (by decide), ← C 1 (by decide), ← C 2 (by decide), ← C 3 (by decide)]
  have w := zc_al_3 S (by rw [eTn]; exact hk) e
  rw [i0, i1, i2, i3] at w
  rcases w with ⟨-, -, -, q, w⟩ | ⟨-, -, -, q, w⟩
  · exact ⟨_, w, fun z => absurd rfl z, fun z => absurd z q⟩
  · exact ⟨_, w, fun _ => q, fun _ => by decide⟩
theorem x_als {d T : Nat} {h hm : Hp} {g : Nat → Int32} {kd : Int32} {r : Option Value × Hp × Nat} (S : SH h.2) (ht : T < 6) (hk : kd.toInt = 3) (C : CAs h g) (TR : TRs h hm T) (e : Ev d 111 (0, [some (.ref 213), some (.int kd), some (.ref (5 + 24 * T))], [], h, fl_tot) r) : ∃ v : Int32, r = (some (.int v), h, fl_tot) ∧ (v.toInt ≠ 0 ↔ SMs hm T g) := by
  unfold SMs
  rw [← C 0 (by decide), ← C 1 (by decide), ← C 2 (by decide), ← C 3 (by decide), ← TR 1 (by decide), ← TR 2 (by decide), ← TR 3 (by decide)]
  have t0 : h.1 (6 + 24 * T) 0 = hm.1 263 (4 * T) := TR 0 (by decide)
  rw [← t0]
  rcases ye_hs_3 S ht hk e with ⟨-, -, -, q, w⟩ | ⟨-, -, -, q, w⟩
  · exact ⟨_, w, fun z => absurd rfl z, fun z => absurd z q⟩
  · exact ⟨_, w, fun _ => q, fun _ => by decide⟩
