
set_option maxRecDepth 20000
/-! THE SEARCH ON BOTH SIDES -/
theorem pics_cg {g : Hp} {T : Nat} {q q' : Nat → Nat} : ∀ d : Nat, (∀ j : Nat, j < d → q j = q' j) → pics g T q d = pics g T q' d
  | 0, _ => rfl
  | d + 1, h => by
    show nxX g T (q d) (pics g T q d) = nxX g T (q' d) (pics g T q' d)
    rw [pics_cg d (fun j hj => h j (by omega)), h d (by omega)]
/-- is the picture the tray's -/
def SMX (g : Hp) (T : Nat) (s : PS) : Prop := if (g.1 224 T).toInt = 1 ∨ (g.1 224 T).toInt = 2 then SMq g T s.2.1 s.2.2.1 else if (g.1 224 T).toInt = 3 then SMs g T s.2.2.2 else SMk g T s.1
theorem SMX_fr {g g' : Hp} {T : Nat} {s : PS} (R : ∀ K j : Nat, K = 224 ∨ K = 255 ∨ K = 256 ∨ K = 260 ∨ K = 261 ∨ K = 262 ∨ K = 263 → g'.1 K j = g.1 K j) : SMX g' T s ↔ SMX g T s := by
  have a : g'.1 224 = g.1 224 := funext fun j => R 224 j (by omega)
  have b : g'.1 255 = g.1 255 := funext fun j => R 255 j (by omega)
  have c : g'.1 256 = g.1 256 := funext fun j => R 256 j (by omega)
  have d : g'.1 260 = g.1 260 := funext fun j => R 260 j (by omega)
  have e : g'.1 261 = g.1 261 := funext fun j => R 261 j (by omega)
  have f : g'.1 262 = g.1 262 := funext fun j => R 262 j (by omega)
  have h : g'.1 263 = g.1 263 := funext fun j => R 263 j (by omega)
  unfold SMX SMq SMs SMk smK
  rw [a, b, c, d, e, f, h]
theorem cx_same {g h : Hp} {T p d : Nat} {s : PS} {b : Int} {kd : Int32} {r : Option Value × Hp × Nat} (S : SH h.2) (ht : T < 6) (hk : kd.toInt = (g.1 224 T).toInt) (k05 : 0 ≤ (g.1 224 T).toInt ∧ (g.1 224 T).toInt ≤ 5) (B : CAP (g.1 224 T).toInt h s p) (hp : p ≤ 12) (TR : TRc g h g T b) (e : Ev d 111 (0, [some (.ref 213), some (.int kd), some (.ref (5 + 24 * T))], [], h, fl_tot) r) : ∃ v : Int32, r = (some (.int v), h, fl_tot) ∧ (v.toInt ≠ 0 ↔ SMX g T s) := by
  obtain ⟨B1, B2, B3⟩ := B
  obtain ⟨T1, T2, T3, -⟩ := TR
  by_cases z : (g.1 224 T).toInt = 1 ∨ (g.1 224 T).toInt = 2
  · have EQ : SMX g T s ↔ SMq g T s.2.1 s.2.2.1 := by
      unfold SMX
      rw [if_pos z]
    rw [EQ]
    have e : Ev d 111 (30, [some (.ref 213), some (.int kd), some (.ref (5 + 24 * T))], [.ref (5 + 24 * T), .ref 213], h, fl_tot) r := by
      rcases ye_hs_1 S ht (by omega) e with ⟨-, e⟩ | ⟨-, -, e⟩
      · exact e
      · exact e
    obtain ⟨d3, v3, h3, n3, z3, ec3, e⟩ := b_call (m2 := 112) (k := 1) (nL := 3) (as := [.ref 213, .ref (5 + 24 * T)]) (rest := []) (L := [some (.ref 213), some (.ref (5 + 24 * T)), none]) e (show fl_code 111 30 = some (18, [((112 : Nat) : Int), ((1 : Nat) : Int)], 33) by decide +kernel) rfl (by decide +kernel) rfl rfl rfl
    obtain ⟨v, w, I⟩ := x_alq S ht hp (B2 z) (T2 z) ec3
    obtain ⟨wa, wb, wc⟩ := tri w
    rw [wa, wb, wc] at e
    exact ⟨v, ye_hs_1r S ht e, I⟩
  · by_cases z3 : (g.1 224 T).toInt = 3
    · have EQ : SMX g T s ↔ SMs g T s.2.2.2 := by
        unfold SMX
        rw [if_neg z, if_pos z3]
      rw [EQ]
      exact x_als S ht (hk.trans z3) (B3 z3) (T3 z3) e
    · have EQ : SMX g T s ↔ SMk g T s.1 := by
        unfold SMX
        rw [if_neg z, if_neg z3]
      rw [EQ]
      have z5 : (g.1 224 T).toInt = 0 ∨ (g.1 224 T).toInt = 4 ∨ (g.1 224 T).toInt = 5 := by omega
      have e : Ev d 111 (53, [some (.ref 213), some (.int kd), some (.ref (5 + 24 * T))], [.ref (5 + 24 * T), .ref 213], h, fl_tot) r := by
        rcases ye_hs_0 S ht (by omega) e with ⟨q, -⟩ | ⟨-, q, -⟩ | ⟨-, -, q, -⟩ | ⟨-, -, q, -⟩ | ⟨-, -, -, e⟩
        · exfalso; omega
        · exfalso; omega
        · exfalso; omega
        · exfalso; omega
        · exact e
      obtain ⟨d3, v3, h3, n3, z3, ec3, e⟩ := b_call (m2 := 113) (k := 1) (nL := 3) (as := [.ref 213, .ref (5 + 24 * T)]) (rest := []) (L := [some (.ref 213), some (.ref (5 + 24 * T)), none]) e (show fl_code 111 53 = some (18, [((113 : Nat) : Int), ((1 : Nat) : Int)], 56) by decide +kernel) rfl (by decide +kernel) rfl rfl rfl
      obtain ⟨v, w, I⟩ := x_alk S ht (B1 z5) (T1 z5) ec3
      obtain ⟨wa, wb, wc⟩ := tri w
      rw [wa, wb, wc] at e
      exact ⟨v, ye_hs_0r S ht e, I⟩
theorem rx_same {hm : Hp} {T p d : Nat} {s : PS} {r : Option Value × Hp × Nat} (S : SH hm.2) (ht : T < 6) (k05 : 0 ≤ (hm.1 224 T).toInt ∧ (hm.1 224 T).toInt ≤ 5) (B1 : ∀ j : Nat, j < 192 → 0 ≤ (hm.1 255 j).toInt ∧ (hm.1 255 j).toInt ≤ 1) (B2 : 0 ≤ (hm.1 262 T).toInt ∧ (hm.1 262 T).toInt ≤ 1) (B : RAP (hm.1 224 T).toInt hm s p) (hp : p ≤ 12) (e : Ev d 197 (0, [some (.ref 223), some (.int (Int32.ofNat T)), none, none], [], hm, fl_tot) r) : ∃ v : Int32, r = (some (.int v), hm, fl_tot) ∧ (v.toInt ≠ 0 ↔ SMX hm T s) := by
  obtain ⟨R1, R2, R3⟩ := B
  by_cases z : (hm.1 224 T).toInt = 1 ∨ (hm.1 224 T).toInt = 2
  · have EQ : SMX hm T s ↔ SMq hm T s.2.1 s.2.2.1 := by
      unfold SMX
      rw [if_pos z]
    rw [EQ]
    exact z_alq S B2 ht z hp (R2 z) e
  · by_cases z3 : (hm.1 224 T).toInt = 3
    · have EQ : SMX hm T s ↔ SMs hm T s.2.2.2 := by
        unfold SMX
        rw [if_neg z, if_pos z3]
      rw [EQ]
      exact z_als S ht z3 (R3 z3) e
    · have EQ : SMX hm T s ↔ SMk hm T s.1 := by
        unfold SMX
        rw [if_neg z, if_neg z3]
      rw [EQ]
      exact z_alk S B1 ht (by omega) (R1 (by omega)) e
/-! frames -/
def FCk (h0 h : Hp) : Prop := (∀ r j : Nat, ¬ (r = 212 ∧ (j = 10 ∨ j = 11)) → ¬ (r = 213 ∨ r = 214 ∨ r = 217) → h.1 r j = h0.1 r j) ∧ h.2 = h0.2
theorem FCk.refl (h : Hp) : FCk h h := ⟨fun _ _ _ _ => rfl, rfl⟩
theorem FCk.set {h0 h : Hp} (x : FCk h0 h) {r j : Nat} {v : Int32} (ok : (r = 212 ∧ (j = 10 ∨ j = 11)) ∨ (r = 213 ∨ r = 214 ∨ r = 217)) : FCk h0 (fl_setI h r j v) := ⟨fun r' j' z1 z2 => by
  rw [setI_no (fun y => by
    obtain ⟨y1, y2⟩ := y
    subst y1
    subst y2
    rcases ok with ok | ok
    · exact z1 ok
    · exact z2 ok)]
  exact x.1 r' j' z1 z2, x.2⟩
theorem FCk.fp {h0 h h' : Hp} (x : FCk h0 h) (F : FP h h') : FCk h0 h' := ⟨fun r j z1 z2 => (F.1 r j (by omega)).trans (x.1 r j z1 z2), F.2.trans x.2⟩
def FG (g hm : Hp) : Prop := (∀ K j : Nat, ¬ (275 ≤ K ∧ K ≤ 281) → ¬ (K = 223 ∧ (j = 64 ∨ j = 68 ∨ j = 69)) → hm.1 K j = g.1 K j) ∧ hm.2 = g.2
theorem FG.refl (h : Hp) : FG h h := ⟨fun _ _ _ _ => rfl, rfl⟩
theorem FG.set {g h : Hp} (x : FG g h) {r j : Nat} {v : Int32} (ok : (275 ≤ r ∧ r ≤ 281) ∨ (r = 223 ∧ (j = 64 ∨ j = 68 ∨ j = 69))) : FG g (fl_setI h r j v) := ⟨fun r' j' z1 z2 => by
  rw [setI_no (fun y => by
    obtain ⟨y1, y2⟩ := y
    subst y1
    subst y2
    rcases ok with ok | ok
    · exact z1 ok
    · exact z2 ok)]
  exact x.1 r' j' z1 z2, x.2⟩
theorem FG.fm {g h h' : Hp} (x : FG g h) (F : FM h h') : FG g h' := ⟨fun r j z1 z2 => (F.1 r j (by omega) (by omega)).trans (x.1 r j z1 z2), F.2.trans x.2⟩
theorem FG.rds {g g' : Hp} (F : FG g g') : RDs g g' := fun K j z => F.1 K j (by omega) (by omega)
theorem TAK.fr {g g' : Hp} {T M : Nat} {tk : Nat → Nat} (F : FG g g') (A : TAK g T M tk) : TAK g' T M tk := by
  obtain ⟨⟨a1, a2⟩, a3⟩ := A
  refine ⟨⟨a1, by rw [F.1 223 60 (by omega) (by omega)]; exact a2⟩, fun k hk => ?_⟩
  rw [F.1 274 k (by omega) (by omega)]
  exact ⟨(a3 k hk).1, (a3 k hk).2.fr F.rds⟩
theorem AHx_fr {g g' : Hp} {tk : Nat → Nat} {k i : Nat} (F : FG g g') : AHx g' tk k i ↔ AHx g tk k i := by
  unfold AHx
  rw [F.1 242 _ (by omega) (by omega), F.1 241 _ (by omega) (by omega)]
theorem TRc.fc {g h0 h : Hp} {T : Nat} {b : Int} (ht : T < 6) (F : FCk h0 h) (A : TRc g h0 g T b) : TRc g h g T b := by
  have f : ∀ r j : Nat, r < 200 → h.1 r j = h0.1 r j := fun r j z => F.1 r j (by omega) (by omega)
  obtain ⟨t1, t2, t3, t4⟩ := A
  refine ⟨fun z j hj => ?_, fun z => ?_, fun z m h4 => ?_, fun z => ?_⟩
  · rw [f _ _ (by omega), f _ _ (by omega)]
    exact t1 z j hj
  · obtain ⟨q1, q2, q3, q4⟩ := t2 z
    unfold TRq
    rw [f (5 + 24 * T) 3 (by omega), f (5 + 24 * T) 2 (by omega), f (5 + 24 * T) 4 (by omega)]
    refine ⟨q1, fun j hj => ?_, q3, q4⟩
    rw [f _ _ (by omega)]
    exact q2 j hj
  · rw [f _ _ (by omega)]
    exact t3 z m h4
  · obtain ⟨q1, q2, q3⟩ := t4 z
    unfold TRo
    rw [f (4 + 24 * T) 9 (by omega), f (4 + 24 * T) 10 (by omega), f (4 + 24 * T) 11 (by omega)]
    refine ⟨fun j hj => ?_, q2, q3⟩
    rw [f _ _ (by omega)]
    exact q1 j hj
/-! bits of the places -/
theorem hb_at {x : Int32} {k : Nat} (hk : k < 32) : (((ushr x (Int32.ofNat k)) &&& (Int32.ofInt 1)).toInt ≠ 0 ↔ hb x k = true) ∧ (((ushr x (Int32.ofNat k)) &&& (Int32.ofInt 1)).toInt = 0 ↔ hb x k = false) := by
  have a := hb_iff (x := x) hk
  have b := hb_iff0 (x := x) hk
  rw [an31e hk] at a b
  exact ⟨a, b⟩
theorem hb_on {x : Int32} {j k : Nat} (hj : j < 32) (hk : k < 32) : hb (x ||| ((Int32.ofInt 1) <<< ((Int32.ofNat k) &&& 31))) j = (hb x j || decide (j = k)) := by
  have a := hb_or (x := x) hj hk
  rw [an31e hk] at a
  exact a
theorem hb_of {x : Int32} {j k : Nat} (hj : j < 32) (hk : k < 32) : hb (x &&& (((Int32.ofInt 1) <<< ((Int32.ofNat k) &&& 31)) ^^^ (Int32.ofInt (-1)))) j = (hb x j && !decide (j = k)) := by
  have a := hb_out (x := x) hj hk
  rw [an31e hk] at a
  exact a
theorem hb_an {x y : Int32} {j : Nat} (hj : j < 32) : hb (x &&& (y ^^^ (Int32.ofInt (-1)))) j = (hb x j && !hb y j) := by
  show (x.toBitVec &&& (y.toBitVec ^^^ (Int32.ofInt (-1)).toBitVec)).getLsbD j = _
  have h : ((List.range 32).all fun j => (Int32.ofInt (-1)).toBitVec.getLsbD j) = true := by decide +kernel
  have e := List.all_eq_true.mp h j (List.mem_range.mpr hj)
  rw [BitVec.getLsbD_and, BitVec.getLsbD_xor, e]
  show (hb x j && (hb y j ^^ true)) = _
  simp
theorem sub_iff {x y : Int32} : (x &&& (y ^^^ (Int32.ofInt (-1)))).toInt = 0 ↔ ∀ j : Nat, j < 32 → hb x j = true → hb y j = true := by
  constructor
  · intro z j hj hx
    have e0 : x &&& (y ^^^ (Int32.ofInt (-1))) = Int32.ofInt 0 := Int32.toInt_inj.mp (z.trans (by decide))
    have := hb_an (x := x) (y := y) hj
    rw [e0, hb_0, hx] at this
    cases hy : hb y j
    · rw [hy] at this
      cases this
    · rfl
  · intro z
    have e0 : x &&& (y ^^^ (Int32.ofInt (-1))) = Int32.ofInt 0 := hb_ext fun j hj => by
      rw [hb_an hj, hb_0]
      cases hx : hb x j
      · rfl
      · rw [z j hj hx]
        rfl
    rw [e0]
    decide
/-! the relation -/
def GFX (g : Hp) (T M : Nat) (tk : Nat → Nat) : Prop := SH g.2 ∧ TAK g T M tk ∧ (∀ j : Nat, j < 192 → 0 ≤ (g.1 255 j).toInt ∧ (g.1 255 j).toInt ≤ 1) ∧ (0 ≤ (g.1 262 T).toInt ∧ (g.1 262 T).toInt ≤ 1) ∧ (0 ≤ (g.1 224 T).toInt ∧ (g.1 224 T).toInt ≤ 5)
def CFX (g h0 : Hp) (T M : Nat) (tk : Nat → Nat) (mo : Int32) (b : Int) : Prop := SH h0.2 ∧ T < 6 ∧ (h0.1 212 9 = Int32.ofNat M ∧ h0.1 212 12 = mo ∧ h0.2 212 8 = some (5 + 24 * T)) ∧ TRc g h0 g T b ∧ (h0.1 212 6).toInt = (g.1 224 T).toInt ∧ ∀ k : Nat, k < M → CWF g h0 T (tk k / 8) (tk k % 8) ∧ h0.2 215 k = some (152 + 12 * (tk k / 8) + tk k % 8) ∧ ¬ AHx g tk k k ∧ ∀ j : Nat, j < 32 → (hb (h0.1 216 k) j = true ↔ (j < M ∧ AHx g tk j k))
def CQ (g h0 h : Hp) (T : Nat) (tk pl : Nat → Nat) (p : Nat) : Prop := FCk h0 h ∧ (∀ k : Nat, k < 32 → (hb (h.1 212 10) k = true ↔ ∃ d : Nat, d < p ∧ pl d = k)) ∧ (∀ d : Nat, d < p → h.1 217 d = Int32.ofNat (pl d)) ∧ CAP (g.1 224 T).toInt h (pics g T (fun d => tk (pl d)) p) p
def RQ (g hm : Hp) (M : Nat) (pl : Nat → Nat) (p i : Nat) : Prop := FG g hm ∧ (∀ d : Nat, d < p → hm.1 275 d = Int32.ofNat (pl d) ∧ hm.1 277 d = Int32.ofNat (pl d + 1)) ∧ (∀ k : Nat, k < M → ((hm.1 276 k).toInt ≠ 0 ↔ ∃ d : Nat, d < p ∧ pl d = k)) ∧ hm.1 277 p = Int32.ofNat i
def PLQ (g : Hp) (T M : Nat) (tk pl : Nat → Nat) (p : Nat) : Prop := ∀ d : Nat, d < p → pl d < M ∧ (∀ e : Nat, e < d → pl e ≠ pl d) ∧ okX g T (tk (pl d)) (pics g T (fun d => tk (pl d)) d)
def MDE (h hm : Hp) (mo : Int32) : Prop := h.1 212 11 = hm.1 223 64 ∧ 0 ≤ (hm.1 223 64).toInt ∧ (hm.1 223 64).toInt ≤ mo.toInt
/-- the end of both, with the same answer -/
def ENA (g h0 : Hp) (M : Nat) (mo v : Int32) (rx rm : Option Value × Hp × Nat) : Prop := ∃ h' hm' : Hp, rx = (some (.int v), h', fl_tot) ∧ rm = (some (.int v), hm', fl_tot) ∧ FCk h0 h' ∧ FG g hm' ∧ MDE h' hm' mo ∧ (v.toInt = 0 ∨ v.toInt = 1 ∨ v.toInt = -5) ∧ (v.toInt = 1 → ∃ pl : Nat → Nat, ∀ d : Nat, d < M → pl d < M ∧ h'.1 217 d = Int32.ofNat (pl d) ∧ hm'.1 275 d = Int32.ofNat (pl d))
def upP (pl : Nat → Nat) (p i : Nat) : Nat → Nat := fun d => if d = p then i else pl d
theorem upP_at {pl : Nat → Nat} {p i : Nat} : upP pl p i p = i := if_pos rfl
theorem upP_no {pl : Nat → Nat} {p i d : Nat} (h : d ≠ p) : upP pl p i d = pl d := if_neg h
theorem pics_up {g : Hp} {T p i d : Nat} {tk pl : Nat → Nat} (hd : d ≤ p) : pics g T (fun d => tk (upP pl p i d)) d = pics g T (fun d => tk (pl d)) d := pics_cg d fun j hj => by
  show tk (upP pl p i j) = tk (pl j)
  rw [upP_no (by omega)]
theorem pics_up1 {g : Hp} {T p i : Nat} {tk pl : Nat → Nat} : pics g T (fun d => tk (upP pl p i d)) (p + 1) = nxX g T (tk i) (pics g T (fun d => tk (pl d)) p) := by
  show nxX g T (tk (upP pl p i p)) (pics g T (fun d => tk (upP pl p i d)) p) = _
  rw [upP_at, pics_up (Nat.le_refl p)]
theorem PLQ.up {g : Hp} {T M p i : Nat} {tk pl : Nat → Nat} (P : PLQ g T M tk pl p) (hi : i < M) (ni : ∀ d : Nat, d < p → pl d ≠ i) (ok : okX g T (tk i) (pics g T (fun d => tk (pl d)) p)) : PLQ g T M tk (upP pl p i) (p + 1) := fun d hd => by
  by_cases z : d = p
  · subst z
    rw [upP_at, pics_up (Nat.le_refl d)]
    exact ⟨hi, fun e he => by rw [upP_no (by omega)]; exact ni e he, ok⟩
  · have hdp : d < p := by omega
    rw [upP_no z, pics_up (Nat.le_of_lt hdp)]
    exact ⟨(P d hdp).1, fun e he => by rw [upP_no (by omega)]; exact (P d hdp).2.1 e he, (P d hdp).2.2⟩
theorem ex_up {pl : Nat → Nat} {p i k : Nat} : (∃ d : Nat, d < p + 1 ∧ upP pl p i d = k) ↔ ((∃ d : Nat, d < p ∧ pl d = k) ∨ k = i) := by
  constructor
  · rintro ⟨d, hd, e⟩
    by_cases z : d = p
    · rw [z, upP_at] at e
      exact Or.inr e.symm
    · rw [upP_no z] at e
      exact Or.inl ⟨d, by omega, e⟩
  · rintro (⟨d, hd, e⟩ | e)
    · exact ⟨d, by omega, by rw [upP_no (by omega)]; exact e⟩
    · exact ⟨p, by omega, by rw [upP_at]; exact e.symm⟩
/-- the reference goes on with the next try -/
theorem RQ.nxt {g hm hm' : Hp} {M p i i' : Nat} {pl : Nat → Nat} (R : RQ g hm M pl p i) (F : FG g hm') (a : ∀ d : Nat, hm'.1 275 d = hm.1 275 d ∧ hm'.1 276 d = hm.1 276 d) (b : ∀ d : Nat, d ≠ p → hm'.1 277 d = hm.1 277 d) (c : hm'.1 277 p = Int32.ofNat i') : RQ g hm' M pl p i' := by
  obtain ⟨-, r2, r3, -⟩ := R
  refine ⟨F, fun d hd => ?_, fun k hk => ?_, c⟩
  · rw [(a d).1, b d (by omega)]
    exact r2 d hd
  · rw [(a k).2]
    exact r3 k hk

theorem search_l {g h0 : Hp} {T M : Nat} {tk : Nat → Nat} {mo : Int32} {b : Int} (GF : GFX g T M tk) (CF : CFX g h0 T M tk mo b) (hmo : 0 ≤ mo.toInt ∧ mo.toInt ≤ 3000) : ∀ (n p i : Nat) (pl : Nat → Nat) (h hm : Hp) (o3 o4 o5 oo : Option Value) (d1 d2 : Nat) (rx rm : Option Value × Hp × Nat), (12 - p) * 14 + (13 - i) < n → p < M → i ≤ M → PLQ g T M tk pl p → CQ g h0 h T tk pl p → RQ g hm M pl p i → MDE h hm mo →
  Ev d1 110 (40, [some (.ref 212), some (.int (Int32.ofNat p)), some (.int (Int32.ofNat i)), o3, o4, o5], [], h, fl_tot) rx →
  Ev d2 194 (86, [some (.ref 223), some (.int (Int32.ofNat T)), some (.int mo), some (.int (Int32.ofNat p)), oo], [], hm, fl_tot) rm →
  (∃ v : Int32, v.toInt ≠ 0 ∧ ENA g h0 M mo v rx rm) ∨ (∃ (h' hm' : Hp) (oo' : Option Value), rx = (some (.int (Int32.ofInt 0)), h', fl_tot) ∧ CQ g h0 h' T tk pl p ∧ MDE h' hm' mo ∧ FG g hm' ∧ (p = 0 → rm = (some (.int (Int32.ofInt 0)), hm', fl_tot)) ∧ ∀ p' : Nat, p = p' + 1 → RQ g hm' M pl p' (pl p' + 1) ∧ Ev d2 194 (86, [some (.ref 223), some (.int (Int32.ofNat T)), some (.int mo), some (.int (Int32.ofNat p')), oo'], [], hm', fl_tot) rm)
  | 0, p, i, pl, h, hm, o3, o4, o5, oo, d1, d2, rx, rm, hn, hp, hi, P, C, R, D, e, em => by omega
  | n + 1, p, i, pl, h, hm, o3, o4, o5, oo, d1, d2, rx, rm, hn, hp, hi, P, C, R, D, e, em => by
    obtain ⟨Sg, A, G1, G2, Gk⟩ := id GF
    obtain ⟨S0, t6, ⟨c9, c12, cdue⟩, TR, ck, CA⟩ := id CF
    obtain ⟨FC1, cb, crow, cap⟩ := id C
    obtain ⟨FG1, r2, r3, r4⟩ := id R
    obtain ⟨d11, dlo, dhi⟩ := id D
    have m12 := A.1.1
    have S : SH h.2 := by rw [FC1.2]; exact S0
    have Sm : SH hm.2 := by rw [FG1.2]; exact Sg
    have ei := i32n (n := i) (by omega)
    have ep := i32n (n := p) (by omega)
    have eM := i32n (n := M) (by omega)
    have ein : (Int32.ofNat i).toNatClampNeg = i := o32c (by omega)
    have epn : (Int32.ofNat p).toNatClampNeg = p := o32c (by omega)
    have h9 : h.1 212 9 = Int32.ofNat M := (FC1.1 212 9 (by omega) (by omega)).trans c9
    have h12 : h.1 212 12 = mo := (FC1.1 212 12 (by omega) (by omega)).trans c12
    have m60 : hm.1 223 60 = Int32.ofNat M := (FG1.1 223 60 (by omega) (by omega)).trans A.1.2
    have bit : ∀ k : Nat, k < M → (hb (h.1 212 10) k = true ↔ (hm.1 276 k).toInt ≠ 0) := fun k hk => (cb k (by omega)).trans (r3 k hk).symm
    have WX := ye_fi_l S e
    have WM := zc_se_h Sm em
    rw [h9, h12] at WX
    rw [epn, r4, m60, ein] at WM
    rcases WX with ⟨x0, wx⟩ | ⟨x0, x1, x2, e⟩ | ⟨x0, x1, x2, wx⟩ | ⟨x0, x1, e⟩
    · -- all tried at this place
      have iM : i = M := by omega
      refine Or.inr ?_
      rcases WM with ⟨y0, -⟩ | ⟨y0, y1, -⟩ | ⟨y0, y1, -⟩ | ⟨y0, y1, -⟩ | ⟨y0, y1, y2, em⟩ | ⟨y0, y1, y2, em⟩
      · exfalso; omega
      · exfalso; omega
      · exfalso; omega
      · exfalso; omega
      · have p0 : p = 0 := by
          cases p with
          | zero => rfl
          | succ p' =>
            rw [(nsub (n := p' + 1) (by omega)).2, (nsub (n := p') (by omega)).1, i32n (by omega)] at y2
            exfalso; omega
        subst p0
        have em := zc_se_j Sm em
        rcases zc_se_h Sm em with ⟨-, w⟩ | ⟨z0, -⟩ | ⟨z0, -⟩ | ⟨z0, -⟩ | ⟨z0, -⟩ | ⟨z0, -⟩
        · exact ⟨h, hm, none, wx, C, D, FG1, fun _ => w, fun p' hp' => by omega⟩
        all_goals exact absurd z0 (by decide)
      · cases p with
        | zero => exact absurd y2 (by decide)
        | succ p' =>
          have es : Int32.ofNat (p' + 1) + Int32.ofInt (-1) = Int32.ofNat p' := by rw [(nsub (n := p' + 1) (by omega)).2, (nsub (n := p') (by omega)).1]
          obtain ⟨q1, q2, q3⟩ := P p' (by omega)
          rw [es, o32c (by omega), (r2 p' (by omega)).1, o32c (by omega)] at em
          have em := zc_se_j (h := fl_setI hm 276 (pl p') (Int32.ofInt 0)) Sm em
          have F' : FG g (fl_setI hm 276 (pl p') (Int32.ofInt 0)) := FG1.set (by omega)
          refine ⟨h, _, some (.int (Int32.ofNat i)), wx, C, ?_, F', fun z => by omega, fun p'' hp'' => ?_⟩
          · unfold MDE
            rw [setI_no (by omega)]
            exact D
          · have : p'' = p' := by omega
            subst this
            refine ⟨⟨F', fun d hd => ?_, fun k hk => ?_, ?_⟩, em⟩
            · rw [setI_no (by omega), setI_no (by omega)]
              exact r2 d (by omega)
            · by_cases z : k = pl p''
              · subst z
                rw [setI_at]
                exact ⟨fun y => absurd (by decide) y, fun ⟨d, hd, y⟩ => absurd y (q2 d hd)⟩
              · rw [setI_no (by omega), r3 k hk]
                constructor
                · rintro ⟨d, hd, y⟩
                  by_cases dz : d = p''
                  · exact absurd (by rw [← y, dz]) z
                  · exact ⟨d, by omega, y⟩
                · rintro ⟨d, hd, y⟩
                  exact ⟨d, by omega, y⟩
            · rw [setI_no (by omega)]
              exact (r2 p'' (by omega)).2
    · -- a try
      have iM : i < M := by omega
      have nb := (hb_at (by omega)).2.mp x1
      have r0 : (hm.1 276 i).toInt = 0 := by
        by_cases z : (hm.1 276 i).toInt = 0
        · exact z
        · have := (bit i iM).mpr z
          rw [nb] at this
          cases this
      have ni : ∀ d : Nat, d < p → pl d ≠ i := fun d hd z => by
        have := (cb i (by omega)).mpr ⟨d, hd, z⟩
        rw [nb] at this
        cases this
      rw [d11] at x2
      rcases WM with ⟨y0, -⟩ | ⟨y0, y1, y2, -⟩ | ⟨y0, y1, y2, y3, em⟩ | ⟨y0, y1, y2, y3, -⟩ | ⟨y0, y1, -⟩ | ⟨y0, y1, -⟩
      · exfalso; omega
      · exact absurd r0 y2
      case inr.inr.inr.inl => exfalso; omega
      case inr.inr.inr.inr.inl => exfalso; omega
      case inr.inr.inr.inr.inr => exfalso; omega
      · obtain ⟨tc, tw, tnn, tah⟩ := CA i iM
        obtain ⟨ta, tA⟩ := A.2 i iM
        have t40 : tk i < 40 := tA.2.2.2.2.2.1
        have hc : tk i / 8 < 5 := by omega
        have hj : tk i % 8 < 8 := by omega
        have tke : 8 * (tk i / 8) + tk i % 8 = tk i := by omega
        rw [d11] at e
        -- the heaps behind the count
        obtain ⟨h1, qh1⟩ : ∃ z, z = fl_setI h 212 11 (hm.1 223 64 + Int32.ofInt 1) := ⟨_, rfl⟩
        rw [← qh1] at e
        obtain ⟨m1, qm1⟩ : ∃ z, z = fl_setI (fl_setI hm 277 p (Int32.ofNat i + Int32.ofInt 1)) 223 64 (hm.1 223 64 + Int32.ofInt 1) := ⟨_, rfl⟩
        rw [← qm1] at em
        have FC2 : FCk h0 h1 := by rw [qh1]; exact FC1.set (by omega)
        have FG2 : FG g m1 := by rw [qm1]; exact (FG1.set (by omega)).set (by omega)
        have S1 : SH h1.2 := by rw [FC2.2]; exact S0
        have Sm1 : SH m1.2 := by rw [FG2.2]; exact Sg
        have cnt : (hm.1 223 64 + Int32.ofInt 1).toInt = (hm.1 223 64).toInt + 1 := add1 (y := 3000) (by omega) (by omega)
        have D1 : MDE h1 m1 mo := by
          unfold MDE
          rw [qh1, qm1, setI_at, setI_at]
          exact ⟨rfl, by omega, by omega⟩
        have R1 : RQ g m1 M pl p (i + 1) := R.nxt FG2 (fun d => by rw [qm1]; exact ⟨by rw [setI_no (by omega), setI_no (by omega)], by rw [setI_no (by omega), setI_no (by omega)]⟩) (fun d hd => by rw [qm1, setI_no (by omega), setI_no (by omega)]) (by rw [qm1, setI_no (by omega), setI_at, o32 (by omega)])
        have h1o : ∀ r j : Nat, ¬ (r = 212 ∧ j = 11) → h1.1 r j = h.1 r j := fun r j z => by rw [qh1, setI_no (by omega)]
        have cap1 : CAP (g.1 224 T).toInt h1 (pics g T (fun d => tk (pl d)) p) p := by
          obtain ⟨b1, b2, b3⟩ := cap
          refine ⟨fun z j hj2 => ?_, fun z => ?_, fun z m hm4 => ?_⟩
          · rw [h1o 213 1 (by omega), h1o 214 j (by omega)]
            exact b1 z j hj2
          · obtain ⟨e1, e2, e3, e4, e5⟩ := b2 z
            refine ⟨by rw [h1o 213 3 (by omega)]; exact e1, e2, fun j hj2 => ?_, by rw [h1o 213 4 (by omega)]; exact e4, e5⟩
            rw [h1o 213 2 (by omega), h1o 214 _ (by omega)]
            exact e3 j hj2
          · rw [h1o 214 m (by omega)]
            exact b3 z m hm4
        have C1 : CQ g h0 h1 T tk pl p := ⟨FC2, fun k hk => by rw [h1o 212 10 (by omega)]; exact cb k hk, fun d hd => by rw [h1o 217 d (by omega)]; exact crow d hd, cap1⟩
        -- the reference: may it come
        obtain ⟨d3, v3, h3, n3, z3, ec3, em⟩ := b_call (m2 := 198) (k := 3) (nL := 5) (as := [.ref 223, .int (Int32.ofNat i), .int (Int32.ofNat p), .int (Int32.ofNat T)]) (rest := []) (L := [some (.ref 223), some (.int (Int32.ofNat i)), some (.int (Int32.ofNat p)), some (.int (Int32.ofNat T)), none]) em (show fl_code 194 175 = some (18, [((198 : Nat) : Int), ((3 : Nat) : Int)], 178) by decide +kernel) rfl (by decide +kernel) rfl rfl rfl
        obtain ⟨v, m2, wm, FM2, I, N⟩ := z_may (pl := pl) Sm1 (A.fr FG2) iM (by omega) (fun d hd => by
          obtain ⟨p1, p2, p3⟩ := P d hd
          rw [okX_fr FG2.rds, pics_fr FG2.rds]
          exact ⟨(R1.2.1 d hd).1, p1, p3⟩) ec3
        rw [okX_fr FG2.rds, pics_fr FG2.rds] at I
        rw [nxX_fr FG2.rds, pics_fr FG2.rds] at N
        have k24 : (m1.1 224 T).toInt = (g.1 224 T).toInt := by rw [FG2.1 224 T (by omega) (by omega)]
        rw [k24] at N
        obtain ⟨wa, wb, wc⟩ := tri wm
        rw [wa, wb, wc] at em
        have FG3 := FG2.fm FM2
        have Sm2 : SH m2.2 := by rw [FG3.2]; exact Sg
        have D2 : MDE h1 m2 mo := by
          unfold MDE
          rw [FM2.1 223 64 (by omega) (by omega)]
          exact D1
        have R2 : RQ g m2 M pl p (i + 1) := R1.nxt FG3 (fun d => ⟨FM2.1 275 d (by omega) (by omega), FM2.1 276 d (by omega) (by omega)⟩) (fun d _ => FM2.1 277 d (by omega) (by omega)) ((FM2.1 277 p (by omega) (by omega)).trans R1.2.2.2)
        have em : Ev d2 194 (178, [some (.ref 223), some (.int (Int32.ofNat T)), some (.int mo), some (.int (Int32.ofNat p)), some (.int (Int32.ofNat i))], [.int v], m2, fl_tot) rm := em
        have MW := zc_se_w Sm2 em
        -- both go on at the next try
        have next : ∀ (q3 q4 q5 : Option Value), v.toInt = 0 → Ev d1 110 (191, [some (.ref 212), some (.int (Int32.ofNat p)), some (.int (Int32.ofNat i)), q3, q4, q5], [], h1, fl_tot) rx → (∃ v : Int32, v.toInt ≠ 0 ∧ ENA g h0 M mo v rx rm) ∨ (∃ (h' hm' : Hp) (oo' : Option Value), rx = (some (.int (Int32.ofInt 0)), h', fl_tot) ∧ CQ g h0 h' T tk pl p ∧ MDE h' hm' mo ∧ FG g hm' ∧ (p = 0 → rm = (some (.int (Int32.ofInt 0)), hm', fl_tot)) ∧ ∀ p' : Nat, p = p' + 1 → RQ g hm' M pl p' (pl p' + 1) ∧ Ev d2 194 (86, [some (.ref 223), some (.int (Int32.ofNat T)), some (.int mo), some (.int (Int32.ofNat p')), oo'], [], hm', fl_tot) rm) := fun q3 q4 q5 v0 e => by
          have e := ye_fi_6 S1 e
          rw [o32 (by omega)] at e
          rcases MW with ⟨-, em⟩ | ⟨y, -⟩ | ⟨y, -⟩
          · exact search_l GF CF hmo n p (i + 1) pl h1 m2 q3 q4 q5 _ d1 d2 rx rm (by omega) hp (by omega) P C1 R2 D2 e (zc_se_j Sm2 em)
          · exact absurd v0 y
          · exact absurd v0 y
        -- the class: who is ahead
        obtain ⟨-, -, -, e⟩ := b15 e (show fl_code 110 91 = some (15, [], 92) by decide +kernel) (show fl_lay 215 = (30, 12) by decide +kernel) (b := 152 + 12 * (tk i / 8) + tk i % 8) (fun _ => by rw [ein, FC2.2]; exact tw)
        have ahd : (h1.1 216 i &&& (h1.1 212 10 ^^^ (Int32.ofInt (-1)))).toInt = 0 ↔ ∀ j : Nat, j < M → (m1.1 276 j).toInt = 0 → j ≠ i → ¬ AHx m1 tk j i := by
          rw [sub_iff, FC2.1 216 i (by omega) (by omega), h1o 212 10 (by omega)]
          have e276 : ∀ j : Nat, m1.1 276 j = hm.1 276 j := fun j => by rw [qm1, setI_no (by omega), setI_no (by omega)]
          constructor
          · intro z j hj0 hj1 hj2 hj3
            rw [e276] at hj1
            have := z j (by omega) ((tah j (by omega)).mpr ⟨hj0, (AHx_fr FG2).mp hj3⟩)
            exact absurd hj1 ((bit j hj0).mp this)
          · intro z j hj0 hj1
            obtain ⟨y1, y2⟩ := (tah j hj0).mp hj1
            by_cases w : (hm.1 276 j).toInt = 0
            · exact absurd ((AHx_fr FG2).mpr y2) (z j y1 (by rw [e276]; exact w) (fun ji => tnn (by rw [ji] at y2; exact y2)))
            · exact (bit j y1).mpr w
        have e : Ev d1 110 (92, [some (.ref 212), some (.int (Int32.ofNat p)), some (.int (Int32.ofNat i)), o3, o4, o5], [.ref (152 + 12 * (tk i / 8) + tk i % 8)], h1, fl_tot) rx := e
        have W2 := ye_fi_2 S1 hc hj e
        rw [ein] at W2
        rcases W2 with ⟨a0, e⟩ | ⟨a0, e⟩
        · exact next _ _ _ (by
            by_cases v0 : v.toInt = 0
            · exact v0
            · exact absurd (ahd.mpr (I.mp v0).1) a0) e
        · -- would it answer so
          have tA' : AWF g T (8 * (tk i / 8) + tk i % 8) := by rw [tke]; exact tA
          have W1 : CWF g h1 T (tk i / 8) (tk i % 8) := by
            obtain ⟨w1, w2, w3⟩ := tc
            have f : ∀ j : Nat, h1.1 (152 + 12 * (tk i / 8) + tk i % 8) j = h0.1 (152 + 12 * (tk i / 8) + tk i % 8) j := fun j => FC2.1 _ _ (by omega) (by omega)
            refine ⟨?_, by rw [FC2.1 212 6 (by omega) (by omega)]; exact w2, by rw [FC2.1 212 7 (by omega) (by omega)]; exact w3⟩
            unfold ADT
            rw [f, f, f, f, f, f, f, f]
            exact w1
          obtain ⟨d4, v4, h4, n4, z4, ec4, e⟩ := b_call (m2 := 114) (k := 1) (nL := 2) (as := [.ref 212, .ref (152 + 12 * (tk i / 8) + tk i % 8)]) (rest := []) (L := [some (.ref 212), some (.ref (152 + 12 * (tk i / 8) + tk i % 8))]) e (show fl_code 110 111 = some (18, [((114 : Nat) : Int), ((1 : Nat) : Int)], 114) by decide +kernel) rfl (by decide +kernel) rfl rfl rfl
          obtain ⟨u, wu, IU⟩ := cx_ans S1 hc hj tA' W1 cap1 (by omega) ec4
          rw [tke] at IU
          obtain ⟨wa, wb, wc⟩ := tri wu
          rw [wa, wb, wc] at e
          have e : Ev d1 110 (114, [some (.ref 212), some (.int (Int32.ofNat p)), some (.int (Int32.ofNat i)), some (.ref (152 + 12 * (tk i / 8) + tk i % 8)), o4, o5], [.int u], h1, fl_tot) rx := e
          rcases ye_fi_3 S1 hc hj e with ⟨u0, e⟩ | ⟨u0, e⟩
          · have ok := IU.mp u0
            have v1 : v.toInt ≠ 0 := I.mpr ⟨ahd.mp a0, ok⟩
            have rap := N v1
            -- done wholly
            obtain ⟨d5, v5, h5, n5, z5, ec5, e⟩ := b_call (m2 := 121) (k := 1) (nL := 2) (as := [.ref 212, .ref (152 + 12 * (tk i / 8) + tk i % 8)]) (rest := []) (L := [some (.ref 212), some (.ref (152 + 12 * (tk i / 8) + tk i % 8))]) e (show fl_code 110 131 = some (18, [((121 : Nat) : Int), ((1 : Nat) : Int)], 134) by decide +kernel) rfl (by decide +kernel) rfl rfl rfl
            obtain ⟨h2, wd, cap2, FP2⟩ := cx_do S1 hc hj tA' W1 cap1 (by omega) (by rw [tke]; exact ok) ec5
            rw [tke] at cap2
            obtain ⟨wa, wb, wc⟩ := tri wd
            rw [wa, wb, wc] at e
            have FC3 := FC2.fp FP2
            have S2 : SH h2.2 := by rw [FC3.2]; exact S0
            have e : Ev d1 110 (134, [some (.ref 212), some (.int (Int32.ofNat p)), some (.int (Int32.ofNat i)), some (.ref (152 + 12 * (tk i / 8) + tk i % 8)), some (.int (h1.1 213 1)), o5], [], h2, fl_tot) rx := e
            have e := ye_fi_4 S2 hc hj e
            rw [epn] at e
            obtain ⟨h3, qh3⟩ : ∃ z, z = fl_setI (fl_setI h2 212 10 ((h2.1 212 10) ||| ((Int32.ofInt 1) <<< (Int32.ofNat i &&& 31)))) 217 p (Int32.ofNat i) := ⟨_, rfl⟩
            rw [← qh3, o32 (by omega)] at e
            have FC4 : FCk h0 h3 := by rw [qh3]; exact (FC3.set (by omega)).set (by omega)
            have S3 : SH h3.2 := by rw [FC4.2]; exact S0
            have h3o : ∀ r j : Nat, ¬ (r = 212 ∧ j = 10) → ¬ (r = 217 ∧ j = p) → h3.1 r j = h2.1 r j := fun r j z1 z2 => by rw [qh3, setI_no (by omega), setI_no (by omega)]
            have capK : ∀ {k : Int} {s : PS} {q : Nat} {ha hb' : Hp}, (∀ r j : Nat, r = 213 ∨ r = 214 → hb'.1 r j = ha.1 r j) → CAP k ha s q → CAP k hb' s q := fun hyp B => by
              obtain ⟨b1, b2, b3⟩ := B
              refine ⟨fun z j hj2 => ?_, fun z => ?_, fun z m hm4 => ?_⟩
              · rw [hyp 213 1 (by omega), hyp 214 j (by omega)]
                exact b1 z j hj2
              · obtain ⟨e1, e2, e3, e4, e5⟩ := b2 z
                refine ⟨by rw [hyp 213 3 (by omega)]; exact e1, e2, fun j hj2 => ?_, by rw [hyp 213 4 (by omega)]; exact e4, e5⟩
                rw [hyp 213 2 (by omega), hyp 214 _ (by omega)]
                exact e3 j hj2
              · rw [hyp 214 m (by omega)]
                exact b3 z m hm4
            have cap3 : CAP (g.1 224 T).toInt h3 (pics g T (fun d => tk (upP pl p i d)) (p + 1)) (p + 1) := by
              rw [pics_up1]
              exact capK (fun r j z => h3o r j (by omega) (by omega)) cap2
            have b3_ : h3.1 212 10 = (h.1 212 10) ||| ((Int32.ofInt 1) <<< (Int32.ofNat i &&& 31)) := by rw [qh3, setI_no (by omega), setI_at, FP2.1 212 10 (by omega), h1o 212 10 (by omega)]
            have CQ3 : CQ g h0 h3 T tk (upP pl p i) (p + 1) := by
              refine ⟨FC4, fun k hk => ?_, fun d hd => ?_, cap3⟩
              · rw [b3_, hb_on hk (by omega), ex_up, ← cb k hk]
                simp
              · by_cases z : d = p
                · rw [z, upP_at, qh3, setI_at]
                · rw [upP_no z, h3o 217 d (by omega) (by omega), FP2.1 217 d (by omega), h1o 217 d (by omega)]
                  exact crow d (by omega)
            have P3 := P.up iM ni ok
            have d3' : h3.1 212 11 = h1.1 212 11 := by rw [h3o 212 11 (by omega) (by omega), FP2.1 212 11 (by omega)]
            -- what comes back from the inner fill with 0 is undone
            have back : ∀ (h4 : Hp) (mx : Hp) (ox : Option Value), CQ g h0 h4 T tk (upP pl p i) (p + 1) → MDE h4 mx mo → RQ g mx M (upP pl p i) p (i + 1) → Ev d1 110 (160, [some (.ref 212), some (.int (Int32.ofNat p)), some (.int (Int32.ofNat i)), some (.ref (152 + 12 * (tk i / 8) + tk i % 8)), some (.int (h1.1 213 1)), o5], [.int (Int32.ofInt 0)], h4, fl_tot) rx → Ev d2 194 (86, [some (.ref 223), some (.int (Int32.ofNat T)), some (.int mo), some (.int (Int32.ofNat p)), ox], [], mx, fl_tot) rm → (∃ v : Int32, v.toInt ≠ 0 ∧ ENA g h0 M mo v rx rm) ∨ (∃ (h' hm' : Hp) (oo' : Option Value), rx = (some (.int (Int32.ofInt 0)), h', fl_tot) ∧ CQ g h0 h' T tk pl p ∧ MDE h' hm' mo ∧ FG g hm' ∧ (p = 0 → rm = (some (.int (Int32.ofInt 0)), hm', fl_tot)) ∧ ∀ p' : Nat, p = p' + 1 → RQ g hm' M pl p' (pl p' + 1) ∧ Ev d2 194 (86, [some (.ref 223), some (.int (Int32.ofNat T)), some (.int mo), some (.int (Int32.ofNat p')), oo'], [], hm', fl_tot) rm) := fun h4 mx ox CQ4 D4 R4 e em => by
              obtain ⟨FC5, cb4, crow4, cap4⟩ := CQ4
              have S4 : SH h4.2 := by rw [FC5.2]; exact S0
              rcases ye_fi_5 S4 hc hj e with ⟨-, e⟩ | ⟨y, -⟩
              · obtain ⟨h5, qh5⟩ : ∃ z, z = fl_setI h4 212 10 ((h4.1 212 10) &&& (((Int32.ofInt 1) <<< (Int32.ofNat i &&& 31)) ^^^ (Int32.ofInt (-1)))) := ⟨_, rfl⟩
                rw [← qh5] at e
                have FC6 : FCk h0 h5 := by rw [qh5]; exact FC5.set (by omega)
                have S5 : SH h5.2 := by rw [FC6.2]; exact S0
                have h5o : ∀ r j : Nat, ¬ (r = 212 ∧ j = 10) → h5.1 r j = h4.1 r j := fun r j z => by rw [qh5, setI_no (by omega)]
                obtain ⟨d6, v6, h6, n6, z6, ec6, e⟩ := b_call (m2 := 123) (k := 2) (nL := 3) (as := [.ref 212, .ref (152 + 12 * (tk i / 8) + tk i % 8), .int (h1.1 213 1)]) (rest := []) (L := [some (.ref 212), some (.ref (152 + 12 * (tk i / 8) + tk i % 8)), some (.int (h1.1 213 1))]) e (show fl_code 110 188 = some (18, [((123 : Nat) : Int), ((2 : Nat) : Int)], 191) by decide +kernel) rfl (by decide +kernel) rfl rfl rfl
                have W5 : CWF g h5 T (tk i / 8) (tk i % 8) := by
                  obtain ⟨w1, w2, w3⟩ := tc
                  have f : ∀ j : Nat, h5.1 (152 + 12 * (tk i / 8) + tk i % 8) j = h0.1 (152 + 12 * (tk i / 8) + tk i % 8) j := fun j => FC6.1 _ _ (by omega) (by omega)
                  refine ⟨?_, by rw [FC6.1 212 6 (by omega) (by omega)]; exact w2, by rw [FC6.1 212 7 (by omega) (by omega)]; exact w3⟩
                  unfold ADT
                  rw [f, f, f, f, f, f, f, f]
                  exact w1
                rw [pics_up1] at cap4
                have cap5 := capK (hb' := h5) (fun r j z => h5o r j (by omega)) cap4
                obtain ⟨h7, w7, cap7, FP7⟩ := cx_undo (q := p + 1) S5 hc hj tA' W5 cap1 rfl (by omega) (by omega) (by rw [tke]; exact ok) (by rw [tke]; exact cap5) ec6
                obtain ⟨wa, wb, wc⟩ := tri w7
                rw [wa, wb, wc] at e
                have FC7 := FC6.fp FP7
                have S7 : SH h7.2 := by rw [FC7.2]; exact S0
                have e := ye_fi_6 S7 e
                rw [o32 (by omega)] at e
                have b7 : h7.1 212 10 = (h4.1 212 10) &&& (((Int32.ofInt 1) <<< (Int32.ofNat i &&& 31)) ^^^ (Int32.ofInt (-1))) := by rw [FP7.1 212 10 (by omega), qh5, setI_at]
                have C7 : CQ g h0 h7 T tk pl p := by
                  refine ⟨FC7, fun k hk => ?_, fun d hd => ?_, cap7⟩
                  · rw [b7, hb_of hk (by omega), Bool.and_eq_true, cb4 k hk, ex_up]
                    constructor
                    · rintro ⟨y1 | y1, y2⟩
                      · exact y1
                      · subst y1
                        simp at y2
                    · rintro ⟨d, hd, y⟩
                      refine ⟨Or.inl ⟨d, hd, y⟩, ?_⟩
                      have : k ≠ i := fun z => ni d hd (y.trans z)
                      simp [this]
                  · rw [FP7.1 217 d (by omega), h5o 217 d (by omega), crow4 d (by omega), upP_no (by omega)]
                have D7 : MDE h7 mx mo := by
                  unfold MDE
                  rw [FP7.1 212 11 (by omega), h5o 212 11 (by omega)]
                  exact D4
                have R7 : RQ g mx M pl p (i + 1) := by
                  obtain ⟨f1, f2, f3, f4⟩ := R4
                  refine ⟨f1, fun d hd => ?_, fun k hk => ?_, f4⟩
                  · have := f2 d hd
                    rw [upP_no (by omega)] at this
                    exact this
                  · rw [f3 k hk]
                    constructor
                    · rintro ⟨d, hd, y⟩
                      rw [upP_no (by omega)] at y
                      exact ⟨d, hd, y⟩
                    · rintro ⟨d, hd, y⟩
                      exact ⟨d, hd, by rw [upP_no (by omega)]; exact y⟩
                exact search_l GF CF hmo n p (i + 1) pl h7 mx _ _ _ ox d1 d2 rx rm (by omega) hp (by omega) P C7 R7 D7 e em
              · exact absurd rfl y
            -- the inner fill
            obtain ⟨d7, v7, h7, n7, z7, ec7, e⟩ := b_call (m2 := 110) (k := 2) (nL := 6) (as := [.ref 212, .int (Int32.ofNat (p + 1))]) (rest := []) (L := [some (.ref 212), some (.int (Int32.ofNat (p + 1))), none, none, none, none]) e (show fl_code 110 157 = some (19, [((110 : Nat) : Int), ((2 : Nat) : Int)], 160) by decide +kernel) rfl (by decide +kernel) rfl rfl rfl
            have ep1 := i32n (n := p + 1) (by omega)
            have hdue : h3.2 212 8 = some (5 + 24 * T) := by rw [FC4.2]; exact cdue
            have WI := ye_fi_0 S3 t6 hdue ec7
            rw [show h3.1 212 9 = Int32.ofNat M from (FC4.1 212 9 (by omega) (by omega)).trans c9, ep1, eM] at WI
            rw [m60.symm.trans (show hm.1 223 60 = m2.1 223 60 by rw [FG1.1 223 60 (by omega) (by omega), FG3.1 223 60 (by omega) (by omega)])] at eM
            have eM2 := i32n (n := M) (by omega)
            rw [o32 (by omega), ep1, eM] at MW
            rw [show m2.1 223 60 = Int32.ofNat M by rw [FG3.1 223 60 (by omega) (by omega)]; exact A.1.2] at eM
            by_cases pM : p + 1 = M
            · -- the last place: is all alike
              have e26 : Ev d7 110 (26, [some (.ref 212), some (.int (Int32.ofNat (p + 1))), none, none, none, none], [.ref (5 + 24 * T), .int (h3.1 212 6), .ref 213], h3, fl_tot) (v7, h7, n7) := by
                rcases WI with ⟨-, w⟩ | ⟨y, -⟩ | ⟨y, -⟩
                · exact w
                · exfalso; omega
                · exfalso; omega
              obtain ⟨d8, v8, h8, n8, z8, ec8, e8⟩ := b_call (m2 := 111) (k := 2) (nL := 3) (as := [.ref 213, .int (h3.1 212 6), .ref (5 + 24 * T)]) (rest := []) (L := [some (.ref 213), some (.int (h3.1 212 6)), some (.ref (5 + 24 * T))]) e26 (show fl_code 110 26 = some (18, [((111 : Nat) : Int), ((2 : Nat) : Int)], 29) by decide +kernel) rfl (by decide +kernel) rfl rfl rfl
              obtain ⟨x, wx8, IX⟩ := cx_same S3 t6 (by rw [FC4.1 212 6 (by omega) (by omega)]; exact ck) Gk cap3 (by omega) (TR.fc t6 FC4) ec8
              obtain ⟨wa, wb, wc⟩ := tri wx8
              rw [wa, wb, wc] at e8
              have em93 : Ev d2 194 (193, [some (.ref 223), some (.int (Int32.ofNat T)), some (.int mo), some (.int (Int32.ofNat p)), some (.int (Int32.ofNat i))], [.int (Int32.ofNat T), .ref 223], m2, fl_tot) rm := by
                rcases MW with ⟨y, -⟩ | ⟨-, y, -⟩ | ⟨-, -, w⟩
                · exact absurd y v1
                · exfalso; omega
                · exact w
              obtain ⟨d9, v9, h9', n9, z9, ec9, em⟩ := b_call (m2 := 197) (k := 1) (nL := 4) (as := [.ref 223, .int (Int32.ofNat T)]) (rest := []) (L := [some (.ref 223), some (.int (Int32.ofNat T)), none, none]) em93 (show fl_code 194 193 = some (18, [((197 : Nat) : Int), ((1 : Nat) : Int)], 196) by decide +kernel) rfl (by decide +kernel) rfl rfl rfl
              have k24' : (m2.1 224 T).toInt = (g.1 224 T).toInt := by rw [FG3.1 224 T (by omega) (by omega)]
              obtain ⟨y, wy, IY⟩ := rx_same (s := nxX g T (tk i) (pics g T (fun d => tk (pl d)) p)) (p := p + 1) Sm2 t6 (by rw [k24']; exact Gk) (fun j hj2 => by rw [FG3.1 255 j (by omega) (by omega)]; exact G1 j hj2) (by rw [FG3.1 262 T (by omega) (by omega)]; exact G2) (by rw [k24']; exact rap) (by omega) ec9
              rw [SMX_fr (g := g) (fun K j z => FG3.1 K j (by omega) (by omega))] at IY
              rw [pics_up1] at IX
              obtain ⟨wa, wb, wc⟩ := tri wy
              rw [wa, wb, wc] at em
              have em : Ev d2 194 (196, [some (.ref 223), some (.int (Int32.ofNat T)), some (.int mo), some (.int (Int32.ofNat p)), some (.int (Int32.ofNat i))], [.int y], m2, fl_tot) rm := em
              rcases ye_fi_1 S3 e8 with ⟨x0, w⟩ | ⟨x0, w⟩
              · -- not alike
                obtain ⟨wa, wb, wc⟩ := tri w
                rw [wa, wb, wc] at e
                have y0 : y.toInt = 0 := by
                  by_cases z : y.toInt = 0
                  · exact z
                  · exact absurd x0 (IX.mpr (IY.mp z))
                rcases zc_se_a Sm2 em with ⟨-, em⟩ | ⟨z, -⟩
                · refine back h3 m2 _ CQ3 ⟨d3'.trans D2.1, D2.2⟩ ?_ e (zc_se_j Sm2 em)
                  obtain ⟨f1, f2, f3, f4⟩ := R2
                  refine ⟨f1, fun d hd => ?_, fun k hk => ?_, f4⟩
                  · rw [upP_no (by omega)]
                    exact f2 d hd
                  · rw [f3 k hk]
                    constructor
                    · rintro ⟨d, hd, z⟩
                      exact ⟨d, hd, by rw [upP_no (by omega)]; exact z⟩
                    · rintro ⟨d, hd, z⟩
                      rw [upP_no (by omega)] at z
                      exact ⟨d, hd, z⟩
                · exact absurd y0 z
              · -- alike: found
                obtain ⟨wa, wb, wc⟩ := tri w
                rw [wa, wb, wc] at e
                rcases ye_fi_5 S3 hc hj e with ⟨z, -⟩ | ⟨-, wr⟩
                · exact absurd z (by decide)
                · rcases zc_se_a Sm2 em with ⟨z, -⟩ | ⟨-, wm⟩
                  · exact absurd z (IY.mpr (IX.mp x0))
                  · rw [epn] at wm
                    refine Or.inl ⟨Int32.ofInt 1, by decide, h3, _, wr, wm, FC4, FG3.set (by omega), ?_, by decide, fun _ => ⟨upP pl p i, fun d hd => ?_⟩⟩
                    · unfold MDE
                      rw [d3', setI_no (by omega)]
                      exact D2
                    · refine ⟨(P3 d (by omega)).1, CQ3.2.2.1 d (by omega), ?_⟩
                      by_cases z : d = p
                      · rw [z, setI_at, upP_at]
                      · rw [setI_no (by omega), upP_no z]
                        exact (R2.2.1 d (by omega)).1
            · -- a place more
              have e40 : Ev d7 110 (40, [some (.ref 212), some (.int (Int32.ofNat (p + 1))), some (.int (Int32.ofNat 0)), none, none, none], [], h3, fl_tot) (v7, h7, n7) := by
                rcases WI with ⟨y, -⟩ | ⟨-, -, w⟩ | ⟨-, y, -⟩
                · exfalso; omega
                · exact w
                · exfalso; omega
              have em35 : Ev d2 194 (235, [some (.ref 223), some (.int (Int32.ofNat T)), some (.int mo), some (.int (Int32.ofNat (p + 1))), some (.int (Int32.ofNat i))], [], fl_setI (fl_setI (fl_setI m2 275 p (Int32.ofNat i)) 276 i (Int32.ofInt 1)) 277 (p + 1) (Int32.ofInt 0), fl_tot) rm := by
                rcases MW with ⟨y, -⟩ | ⟨-, -, w⟩ | ⟨-, y, -⟩
                · exact absurd y v1
                · rw [epn, ein, o32c (by omega)] at w
                  exact w
                · exfalso; omega
              obtain ⟨m3, qm3⟩ : ∃ z, z = fl_setI (fl_setI (fl_setI m2 275 p (Int32.ofNat i)) 276 i (Int32.ofInt 1)) 277 (p + 1) (Int32.ofInt 0) := ⟨_, rfl⟩
              rw [← qm3] at em35
              have FG4 : FG g m3 := by rw [qm3]; exact ((FG3.set (by omega)).set (by omega)).set (by omega)
              have Sm3 : SH m3.2 := by rw [FG4.2]; exact Sg
              have R3 : RQ g m3 M (upP pl p i) (p + 1) 0 := by
                refine ⟨FG4, fun d hd => ?_, fun k hk => ?_, by rw [qm3, setI_at]; rfl⟩
                · by_cases z : d = p
                  · rw [z, upP_at, qm3, setI_no (by omega), setI_no (by omega), setI_at, setI_no (by omega), setI_no (by omega), setI_no (by omega)]
                    exact ⟨rfl, R2.2.2.2⟩
                  · rw [upP_no z, qm3, setI_no (by omega), setI_no (by omega), setI_no (by omega), setI_no (by omega), setI_no (by omega), setI_no (by omega)]
                    exact R2.2.1 d (by omega)
                · rw [ex_up, ← R2.2.2.1 k hk, qm3, setI_no (by omega)]
                  by_cases z : k = i
                  · rw [z, setI_at]
                    exact ⟨fun _ => Or.inr rfl, fun _ => by decide⟩
                  · rw [setI_no (by omega), setI_no (by omega)]
                    exact ⟨fun y => Or.inl y, fun y => y.elim id (fun y => absurd y z)⟩
              have D3 : MDE h3 m3 mo := by
                unfold MDE
                rw [d3', qm3, setI_no (by omega), setI_no (by omega), setI_no (by omega)]
                exact D2
              rcases search_l GF CF hmo n (p + 1) 0 (upP pl p i) h3 m3 _ _ _ _ d7 d2 (v7, h7, n7) rm (by omega) (by omega) (by omega) P3 CQ3 R3 D3 e40 (zc_se_j Sm3 em35) with ⟨w, w0, h', hm', wr, wm, x1, x2, x3, x4, x5⟩ | ⟨h', hm', oo', wr, x1, x2, x3, x4, x5⟩
              · obtain ⟨wa, wb, wc⟩ := tri wr
                rw [wa, wb, wc] at e
                have S' : SH h'.2 := by rw [x1.2]; exact S0
                rcases ye_fi_5 S' hc hj e with ⟨z, -⟩ | ⟨-, w'⟩
                · exact absurd z w0
                · exact Or.inl ⟨w, w0, h', hm', w', wm, x1, x2, x3, x4, x5⟩
              · obtain ⟨wa, wb, wc⟩ := tri wr
                rw [wa, wb, wc] at e
                obtain ⟨y1, y2⟩ := x5 p rfl
                rw [upP_at] at y1
                exact back h' hm' oo' x1 x2 y1 e y2
          · exact next _ _ _ (by
              by_cases v0 : v.toInt = 0
              · exact v0
              · exact absurd u0 (IU.mpr (I.mp v0).2)) e
    · -- given up
      have iM : i < M := by omega
      have nb := (hb_at (by omega)).2.mp x1
      have r0 : (hm.1 276 i).toInt = 0 := by
        by_cases z : (hm.1 276 i).toInt = 0
        · exact z
        · have := (bit i iM).mpr z
          rw [nb] at this
          cases this
      rw [d11] at x2
      rcases WM with ⟨y0, -⟩ | ⟨y0, y1, y2, -⟩ | ⟨y0, y1, y2, y3, -⟩ | ⟨y0, y1, y2, y3, wm⟩ | ⟨y0, y1, -⟩ | ⟨y0, y1, -⟩
      · exfalso; omega
      · exact absurd r0 y2
      · exfalso; omega
      · refine Or.inl ⟨Int32.ofInt (-5), by decide, h, _, wx, wm, FC1, FG1.set (by omega), ?_, by decide, fun z => absurd z (by decide)⟩
        unfold MDE
        rw [setI_no (by omega)]
        exact D
      · exfalso; omega
      · exfalso; omega
    · -- placed already
      have iM : i < M := by omega
      have nb := (hb_at (by omega)).1.mp x1
      have r0 := (bit i iM).mp nb
      rcases WM with ⟨y0, -⟩ | ⟨y0, y1, y2, em⟩ | ⟨y0, y1, y2, -⟩ | ⟨y0, y1, y2, -⟩ | ⟨y0, y1, -⟩ | ⟨y0, y1, -⟩
      · exfalso; omega
      · rw [o32 (by omega)] at em
        have F' : FG g (fl_setI hm 277 p (Int32.ofNat (i + 1))) := FG1.set (by omega)
        have em := zc_se_j (h := fl_setI hm 277 p (Int32.ofNat (i + 1))) Sm em
        have e := ye_fi_6 S e
        rw [o32 (by omega)] at e
        refine search_l GF CF hmo n p (i + 1) pl h _ _ _ _ _ d1 d2 rx rm (by omega) hp (by omega) P C (R.nxt F' (fun d => ⟨setI_no (by omega), setI_no (by omega)⟩) (fun d hd => setI_no (by omega)) setI_at) ?_ e em
        unfold MDE
        rw [setI_no (by omega)]
        exact D
      · exact absurd y2 r0
      · exact absurd y2 r0
      · exfalso; omega
      · exfalso; omega
