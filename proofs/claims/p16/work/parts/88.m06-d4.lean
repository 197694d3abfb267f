
set_option maxRecDepth 20000
/-! ONE PICTURE FOR ALL KINDS -/
abbrev PS : Type := KV × List Int32 × Nat × (Nat → Int32)
def s0 : PS := (fun _ => none, [], 0, fun _ => Int32.ofInt 0)
def ownI (x : Nat) : Int32 := Int32.ofInt (1000 * ((x / 8 : Nat) + 1) + (x % 8 : Nat))
def okX (g : Hp) (T x : Nat) (s : PS) : Prop :=
  if (g.1 224 T).toInt = 0 then okMap (g.1 229 x).toInt (g.1 230 x).toNatClampNeg (g.1 231 x) (g.1 239 x) (g.1 238 x) s.1
  else if (g.1 224 T).toInt = 1 then okQ (g.1 229 x).toInt (g.1 230 x) (g.1 239 x) (g.1 238 x) s.2.1
  else if (g.1 224 T).toInt = 2 then okD (g.1 229 x).toInt (g.1 230 x) (g.1 239 x) (g.1 238 x) (g.1 225 T).toInt s.2.1 s.2.2.1
  else if (g.1 224 T).toInt = 3 then okC (g.1 229 x).toInt (x / 8 % 4) (g.1 230 x) (g.1 239 x) (g.1 238 x) s.2.2.2
  else if (g.1 224 T).toInt = 4 then okCop (g.1 229 x).toInt (g.1 230 x).toNatClampNeg (g.1 239 x) (g.1 238 x) s.1
  else okOnc (g.1 230 x).toNatClampNeg (g.1 239 x) (g.1 238 x) (ownI x) s.1
def nxX (g : Hp) (T x : Nat) (s : PS) : PS :=
  if (g.1 224 T).toInt = 0 then (nxMap (g.1 229 x).toInt (g.1 230 x).toNatClampNeg (g.1 231 x) (g.1 238 x) s.1, s.2)
  else if (g.1 224 T).toInt = 1 then (s.1, nxQ (g.1 229 x).toInt (g.1 230 x) s.2.1, s.2.2)
  else if (g.1 224 T).toInt = 2 then (s.1, nxDl (g.1 229 x).toInt (g.1 230 x) (g.1 239 x) s.2.1, nxDn (g.1 229 x).toInt (g.1 239 x) s.2.2.1, s.2.2.2)
  else if (g.1 224 T).toInt = 3 then (s.1, s.2.1, s.2.2.1, nxC (g.1 229 x).toInt (x / 8 % 4) (g.1 238 x) s.2.2.2)
  else if (g.1 224 T).toInt = 4 then (nxCop (g.1 229 x).toInt (g.1 230 x).toNatClampNeg (g.1 231 x) s.1, s.2)
  else (nxOnc (g.1 230 x).toNatClampNeg (g.1 239 x) (g.1 238 x) s.1, s.2)
/-- an act that may be checked -/
def AWF (g : Hp) (T x : Nat) : Prop := opOK (g.1 224 T).toInt (g.1 229 x).toInt ∧ ((g.1 224 T).toInt = 0 ∨ (g.1 224 T).toInt = 5 ∨ ((g.1 224 T).toInt = 4 ∧ (g.1 229 x).toInt ≠ 3) → 0 ≤ (g.1 230 x).toInt ∧ (g.1 230 x).toInt ≤ 31) ∧ (0 ≤ (g.1 239 x).toInt ∧ (g.1 239 x).toInt ≤ 3) ∧ ((g.1 239 x).toInt ≠ 0 → g.1 238 x = Int32.ofInt 0) ∧ ((g.1 224 T).toInt = 5 → (g.1 239 x).toInt ≠ 1 ∧ (g.1 239 x).toInt ≠ 2) ∧ x < 40 ∧ T < 6
/-- the class's act is this one -/
def CWF (g h : Hp) (T c i : Nat) : Prop := ADT h c i (g.1 229 (8 * c + i)) (g.1 230 (8 * c + i)) (g.1 231 (8 * c + i)) (Int32.ofInt (monI (g.1 224 T).toInt (g.1 229 (8 * c + i)).toInt (g.1 230 (8 * c + i)).toInt c)) (g.1 239 (8 * c + i)) (g.1 238 (8 * c + i)) ∧ (h.1 212 6).toInt = (g.1 224 T).toInt ∧ h.1 212 7 = g.1 225 T
def CAP (k : Int) (h : Hp) (s : PS) (p : Nat) : Prop := (k = 0 ∨ k = 4 ∨ k = 5 → CAk h s.1) ∧ (k = 1 ∨ k = 2 → CAq h s.2.1 s.2.2.1 p) ∧ (k = 3 → CAs h s.2.2.2)
def RAP (k : Int) (h : Hp) (s : PS) (p : Nat) : Prop := (k = 0 ∨ k = 4 ∨ k = 5 → RAk h s.1) ∧ (k = 1 ∨ k = 2 → RAq h s.2.1 s.2.2.1 p) ∧ (k = 3 → RAs h s.2.2.2)
theorem opx {k op : Int} (h : opOK k op) : (0 ≤ k ∧ k ≤ 5) ∧ (0 ≤ op ∧ op ≤ 4) ∧ (k = 0 ∨ k = 4 → op ≤ 3) ∧ (k = 1 ∨ k = 3 → op ≤ 1) ∧ (k = 5 → op = 0) := by
  obtain ⟨h1, h2, h3, h4⟩ := h
  unfold opMax at h4
  split at h4
  · refine ⟨⟨h1, h2⟩, ⟨h3, h4⟩, fun z => ?_, fun z => ?_, fun z => ?_⟩ <;> omega
  · split at h4
    · refine ⟨⟨h1, h2⟩, ⟨h3, by omega⟩, fun z => ?_, fun z => ?_, fun z => ?_⟩ <;> omega
    · split at h4
      · refine ⟨⟨h1, h2⟩, ⟨h3, by omega⟩, fun z => ?_, fun z => ?_, fun z => ?_⟩ <;> omega
      · refine ⟨⟨h1, h2⟩, ⟨h3, by omega⟩, fun z => ?_, fun z => ?_, fun z => ?_⟩ <;> omega
theorem keyN {a : Int32} (h : 0 ≤ a.toInt ∧ a.toInt ≤ 31) : a = Int32.ofNat a.toNatClampNeg ∧ a.toNatClampNeg < 32 := by
  have := lc_clamp h.1
  exact ⟨(i32_of h.1).symm, by omega⟩
theorem k6 {k : Int} (h : 0 ≤ k ∧ k ≤ 5) : k = 0 ∨ k = 1 ∨ k = 2 ∨ k = 3 ∨ k = 4 ∨ k = 5 := by omega
section K
variable {g : Hp} {T x : Nat} {s : PS}

theorem okX_0 (hk : (g.1 224 T).toInt = 0) : okX g T x s = (okMap (g.1 229 x).toInt (g.1 230 x).toNatClampNeg (g.1 231 x) (g.1 239 x) (g.1 238 x) s.1) := by
  unfold okX
  rw [if_pos hk]

theorem nxX_0 (hk : (g.1 224 T).toInt = 0) : nxX g T x s = (nxMap (g.1 229 x).toInt (g.1 230 x).toNatClampNeg (g.1 231 x) (g.1 238 x) s.1, s.2) := by
  unfold nxX
  rw [if_pos hk]

theorem okX_1 (hk : (g.1 224 T).toInt = 1) : okX g T x s = (okQ (g.1 229 x).toInt (g.1 230 x) (g.1 239 x) (g.1 238 x) s.2.1) := by
  unfold okX
  rw [if_neg (by omega), if_pos hk]

theorem nxX_1 (hk : (g.1 224 T).toInt = 1) : nxX g T x s = (s.1, nxQ (g.1 229 x).toInt (g.1 230 x) s.2.1, s.2.2) := by
  unfold nxX
  rw [if_neg (by omega), if_pos hk]

theorem okX_2 (hk : (g.1 224 T).toInt = 2) : okX g T x s = (okD (g.1 229 x).toInt (g.1 230 x) (g.1 239 x) (g.1 238 x) (g.1 225 T).toInt s.2.1 s.2.2.1) := by
  unfold okX
  rw [if_neg (by omega), if_neg (by omega), if_pos hk]

theorem nxX_2 (hk : (g.1 224 T).toInt = 2) : nxX g T x s = (s.1, nxDl (g.1 229 x).toInt (g.1 230 x) (g.1 239 x) s.2.1, nxDn (g.1 229 x).toInt (g.1 239 x) s.2.2.1, s.2.2.2) := by
  unfold nxX
  rw [if_neg (by omega), if_neg (by omega), if_pos hk]

theorem okX_3 (hk : (g.1 224 T).toInt = 3) : okX g T x s = (okC (g.1 229 x).toInt (x / 8 % 4) (g.1 230 x) (g.1 239 x) (g.1 238 x) s.2.2.2) := by
  unfold okX
  rw [if_neg (by omega), if_neg (by omega), if_neg (by omega), if_pos hk]

theorem nxX_3 (hk : (g.1 224 T).toInt = 3) : nxX g T x s = (s.1, s.2.1, s.2.2.1, nxC (g.1 229 x).toInt (x / 8 % 4) (g.1 238 x) s.2.2.2) := by
  unfold nxX
  rw [if_neg (by omega), if_neg (by omega), if_neg (by omega), if_pos hk]

theorem okX_4 (hk : (g.1 224 T).toInt = 4) : okX g T x s = (okCop (g.1 229 x).toInt (g.1 230 x).toNatClampNeg (g.1 239 x) (g.1 238 x) s.1) := by
  unfold okX
  rw [if_neg (by omega), if_neg (by omega), if_neg (by omega), if_neg (by omega), if_pos hk]

theorem nxX_4 (hk : (g.1 224 T).toInt = 4) : nxX g T x s = (nxCop (g.1 229 x).toInt (g.1 230 x).toNatClampNeg (g.1 231 x) s.1, s.2) := by
  unfold nxX
  rw [if_neg (by omega), if_neg (by omega), if_neg (by omega), if_neg (by omega), if_pos hk]

theorem okX_5 (hk : (g.1 224 T).toInt = 5) : okX g T x s = (okOnc (g.1 230 x).toNatClampNeg (g.1 239 x) (g.1 238 x) (ownI x) s.1) := by
  unfold okX
  rw [if_neg (by omega), if_neg (by omega), if_neg (by omega), if_neg (by omega), if_neg (by omega)]

theorem nxX_5 (hk : (g.1 224 T).toInt = 5) : nxX g T x s = (nxOnc (g.1 230 x).toNatClampNeg (g.1 239 x) (g.1 238 x) s.1, s.2) := by
  unfold nxX
  rw [if_neg (by omega), if_neg (by omega), if_neg (by omega), if_neg (by omega), if_neg (by omega)]

end K

theorem cx_ans {g h : Hp} {T c i p d : Nat} {s : PS} {r : Option Value × Hp × Nat} (S : SH h.2) (hc : c < 5) (hi : i < 8) (A : AWF g T (8 * c + i)) (W : CWF g h T c i) (B : CAP (g.1 224 T).toInt h s p) (hp : p ≤ 12) (e : Ev d 114 (0, [some (.ref 212), some (.ref (152 + 12 * c + i))], [], h, fl_tot) r) : ∃ v : Int32, r = (some (.int v), h, fl_tot) ∧ (v.toInt ≠ 0 ↔ okX g T (8 * c + i) s) := by
  obtain ⟨A1, A2, A3, A4, A5, -, -⟩ := A
  obtain ⟨HD, W6, W7⟩ := W
  obtain ⟨O1, O2, O3, O4, O5⟩ := opx A1
  obtain ⟨B1, B2, B3⟩ := B
  have ow : (((Int32.ofInt 1000) * ((Int32.ofNat c) + (Int32.ofInt 1))) + (Int32.ofNat i)) = ownI (8 * c + i) := by
    rw [ownv hc hi]
    unfold ownI
    have z1 : (8 * c + i) / 8 = c := by omega
    have z2 : (8 * c + i) % 8 = i := by omega
    rw [z1, z2]
  have mn : (g.1 224 T).toInt = 3 → (g.1 229 (8 * c + i)).toInt ≠ 1 → Int32.ofInt (monI (g.1 224 T).toInt (g.1 229 (8 * c + i)).toInt (g.1 230 (8 * c + i)).toInt c) = Int32.ofNat ((8 * c + i) / 8 % 4) ∧ (8 * c + i) / 8 % 4 < 4 := fun z1 z2 => by
    have z3 : (8 * c + i) / 8 = c := by omega
    unfold monI
    rw [if_neg (by omega), if_neg (by omega), if_pos z1, if_neg z2, z3]
    exact ⟨rfl, by omega⟩
  generalize Int32.ofInt (monI (g.1 224 T).toInt (g.1 229 (8 * c + i)).toInt (g.1 230 (8 * c + i)).toInt c) = mo at HD mn
  rcases k6 O1 with hk | hk | hk | hk | hk | hk
  · rw [okX_0 hk]
    obtain ⟨ka, k32⟩ := keyN (A2 (by omega))
    rw [ka] at HD
    exact k_ans_map S hc hi HD (W6.trans hk) k32 A4 (B1 (by omega)) e
  · rw [okX_1 hk]
    exact k_ans_queue S hc hi HD (W6.trans hk) hp A4 (B2 (by omega)) e
  · rw [okX_2 hk, ← W7]
    exact k_ans_deque S hc hi HD (W6.trans hk) hp A4 O2 (B2 (by omega)) e
  · rw [okX_3 hk]
    exact k_ans_counter S hc hi HD (W6.trans hk) (mn hk) (B3 (by omega)) e
  · rw [okX_4 hk]
    exact k_ans_copies S hc hi HD (W6.trans hk) (fun z => keyN (A2 (by omega))) A4 (B1 (by omega)) e
  · rw [okX_5 hk, ← ow]
    obtain ⟨ka, k32⟩ := keyN (A2 (by omega))
    rw [ka] at HD
    exact k_ans_once S hc hi HD (W6.trans hk) k32 (B1 (by omega)) e

theorem cx_do {g h : Hp} {T c i p d : Nat} {s : PS} {r : Option Value × Hp × Nat} (S : SH h.2) (hc : c < 5) (hi : i < 8) (A : AWF g T (8 * c + i)) (W : CWF g h T c i) (B : CAP (g.1 224 T).toInt h s p) (hp : p ≤ 12) (ok : okX g T (8 * c + i) s) (e : Ev d 121 (0, [some (.ref 212), some (.ref (152 + 12 * c + i))], [], h, fl_tot) r) : ∃ h', r = (none, h', fl_tot) ∧ CAP (g.1 224 T).toInt h' (nxX g T (8 * c + i) s) (p + 1) ∧ FP h h' := by
  obtain ⟨A1, A2, A3, A4, A5, -, -⟩ := A
  obtain ⟨HD, W6, W7⟩ := W
  obtain ⟨O1, O2, O3, O4, O5⟩ := opx A1
  obtain ⟨B1, B2, B3⟩ := B
  have ow : (((Int32.ofInt 1000) * ((Int32.ofNat c) + (Int32.ofInt 1))) + (Int32.ofNat i)) = ownI (8 * c + i) := by
    rw [ownv hc hi]
    unfold ownI
    have z1 : (8 * c + i) / 8 = c := by omega
    have z2 : (8 * c + i) % 8 = i := by omega
    rw [z1, z2]
  have mn : (g.1 224 T).toInt = 3 → (g.1 229 (8 * c + i)).toInt ≠ 1 → Int32.ofInt (monI (g.1 224 T).toInt (g.1 229 (8 * c + i)).toInt (g.1 230 (8 * c + i)).toInt c) = Int32.ofNat ((8 * c + i) / 8 % 4) ∧ (8 * c + i) / 8 % 4 < 4 := fun z1 z2 => by
    have z3 : (8 * c + i) / 8 = c := by omega
    unfold monI
    rw [if_neg (by omega), if_neg (by omega), if_pos z1, if_neg z2, z3]
    exact ⟨rfl, by omega⟩
  generalize Int32.ofInt (monI (g.1 224 T).toInt (g.1 229 (8 * c + i)).toInt (g.1 230 (8 * c + i)).toInt c) = mo at HD mn
  rcases k6 O1 with hk | hk | hk | hk | hk | hk
  · rw [nxX_0 hk]
    obtain ⟨ka, k32⟩ := keyN (A2 (by omega))
    rw [ka] at HD
    obtain ⟨h', w, c, f⟩ := k_do_map S hc hi HD (W6.trans hk) k32 (B1 (by omega)) e
    exact ⟨h', w, ⟨fun _ => c, fun z => by omega, fun z => by omega⟩, f⟩
  · rw [nxX_1 hk]
    obtain ⟨h', w, c, f⟩ := k_do_queue S hc hi HD (W6.trans hk) hp (B2 (by omega)) e
    exact ⟨h', w, ⟨fun z => by omega, fun _ => c, fun z => by omega⟩, f⟩
  · rw [nxX_2 hk]
    rw [okX_2 hk, ← W7] at ok
    obtain ⟨h', w, c, f⟩ := k_do_deque S hc hi HD (W6.trans hk) hp O2 ok (B2 (by omega)) e
    exact ⟨h', w, ⟨fun z => by omega, fun _ => c, fun z => by omega⟩, f⟩
  · rw [nxX_3 hk]
    obtain ⟨h', w, c, f⟩ := k_do_counter S hc hi HD (W6.trans hk) (mn hk) (B3 (by omega)) e
    exact ⟨h', w, ⟨fun z => by omega, fun z => by omega, fun _ => c⟩, f⟩
  · rw [nxX_4 hk]
    obtain ⟨h', w, c, f⟩ := k_do_copies S hc hi HD (W6.trans hk) (fun z => keyN (A2 (by omega))) (B1 (by omega)) e
    exact ⟨h', w, ⟨fun _ => c, fun z => by omega, fun z => by omega⟩, f⟩
  · rw [nxX_5 hk]
    obtain ⟨ka, k32⟩ := keyN (A2 (by omega))
    rw [ka] at HD
    obtain ⟨h', w, c, f⟩ := k_do_once S hc hi HD (W6.trans hk) k32 (B1 (by omega)) e
    exact ⟨h', w, ⟨fun _ => c, fun z => by omega, fun z => by omega⟩, f⟩

theorem cx_undo {q : Nat} {hb : Hp} {xb : Int32} {g h : Hp} {T c i p d : Nat} {s : PS} {r : Option Value × Hp × Nat} (S : SH h.2) (hc : c < 5) (hi : i < 8) (A : AWF g T (8 * c + i)) (W : CWF g h T c i) (B0 : CAP (g.1 224 T).toInt hb s p) (ex : xb = hb.1 213 1) (hpq : p ≤ q) (hp : q ≤ 12) (ok : okX g T (8 * c + i) s) (B : CAP (g.1 224 T).toInt h (nxX g T (8 * c + i) s) q) (e : Ev d 123 (0, [some (.ref 212), some (.ref (152 + 12 * c + i)), some (.int xb)], [], h, fl_tot) r) : ∃ h', r = (none, h', fl_tot) ∧ CAP (g.1 224 T).toInt h' s p ∧ FP h h' := by
  subst ex
  obtain ⟨A1, A2, A3, A4, A5, -, -⟩ := A
  obtain ⟨HD, W6, W7⟩ := W
  obtain ⟨O1, O2, O3, O4, O5⟩ := opx A1
  obtain ⟨B1, B2, B3⟩ := B
  have ow : (((Int32.ofInt 1000) * ((Int32.ofNat c) + (Int32.ofInt 1))) + (Int32.ofNat i)) = ownI (8 * c + i) := by
    rw [ownv hc hi]
    unfold ownI
    have z1 : (8 * c + i) / 8 = c := by omega
    have z2 : (8 * c + i) % 8 = i := by omega
    rw [z1, z2]
  have mn : (g.1 224 T).toInt = 3 → (g.1 229 (8 * c + i)).toInt ≠ 1 → Int32.ofInt (monI (g.1 224 T).toInt (g.1 229 (8 * c + i)).toInt (g.1 230 (8 * c + i)).toInt c) = Int32.ofNat ((8 * c + i) / 8 % 4) ∧ (8 * c + i) / 8 % 4 < 4 := fun z1 z2 => by
    have z3 : (8 * c + i) / 8 = c := by omega
    unfold monI
    rw [if_neg (by omega), if_neg (by omega), if_pos z1, if_neg z2, z3]
    exact ⟨rfl, by omega⟩
  generalize Int32.ofInt (monI (g.1 224 T).toInt (g.1 229 (8 * c + i)).toInt (g.1 230 (8 * c + i)).toInt c) = mo at HD mn
  obtain ⟨D1, D2, D3⟩ := B0
  rcases k6 O1 with hk | hk | hk | hk | hk | hk
  · rw [nxX_0 hk] at B1 B2 B3
    rw [okX_0 hk] at ok
    obtain ⟨ka, k32⟩ := keyN (A2 (by omega))
    rw [ka] at HD
    obtain ⟨h', w, c, f⟩ := k_undo_map S hc hi HD (W6.trans hk) k32 ok (D1 (by omega)).hbf (B1 (by omega)) e
    exact ⟨h', w, ⟨fun _ => c, fun z => by omega, fun z => by omega⟩, f⟩
  · rw [nxX_1 hk] at B1 B2 B3
    rw [okX_1 hk] at ok
    obtain ⟨h', w, c, f⟩ := k_undo_queue S hc hi HD (W6.trans hk) hp ok (Nat.le_trans (D2 (by omega)).2.1 hpq) (Nat.le_trans (D2 (by omega)).2.2.2.2 hpq) (B2 (by omega)) e
    exact ⟨h', w, ⟨fun z => by omega, fun _ => c.dn (D2 (by omega)).2.1 (D2 (by omega)).2.2.2.2, fun z => by omega⟩, f⟩
  · rw [nxX_2 hk] at B1 B2 B3
    rw [okX_2 hk, ← W7] at ok
    obtain ⟨h', w, c, f⟩ := k_undo_deque S hc hi HD (W6.trans hk) hp O2 ok (Nat.le_trans (D2 (by omega)).2.1 hpq) (Nat.le_trans (D2 (by omega)).2.2.2.2 hpq) (B2 (by omega)) e
    exact ⟨h', w, ⟨fun z => by omega, fun _ => c.dn (D2 (by omega)).2.1 (D2 (by omega)).2.2.2.2, fun z => by omega⟩, f⟩
  · rw [nxX_3 hk] at B1 B2 B3
    rw [okX_3 hk] at ok
    obtain ⟨h', w, c, f⟩ := k_undo_counter S hc hi HD (W6.trans hk) (mn hk) ok (B3 (by omega)) e
    exact ⟨h', w, ⟨fun z => by omega, fun z => by omega, fun _ => c⟩, f⟩
  · rw [nxX_4 hk] at B1 B2 B3
    rw [okX_4 hk] at ok
    obtain ⟨h', w, c, f⟩ := k_undo_copies S hc hi HD (W6.trans hk) (fun z => keyN (A2 (by omega))) ok (D1 (by omega)).hbf (B1 (by omega)) e
    exact ⟨h', w, ⟨fun _ => c, fun z => by omega, fun z => by omega⟩, f⟩
  · rw [nxX_5 hk] at B1 B2 B3
    rw [okX_5 hk, ← ow] at ok
    obtain ⟨ka, k32⟩ := keyN (A2 (by omega))
    rw [ka] at HD
    obtain ⟨h', w, c, f⟩ := k_undo_once S hc hi HD (W6.trans hk) k32 ok (D1 (by omega)).hbf (B1 (by omega)) e
    exact ⟨h', w, ⟨fun _ => c, fun z => by omega, fun z => by omega⟩, f⟩

theorem xdm {x : Nat} (hx : x < 40) : ((Int32.ofNat x / (Int32.ofInt 8)) - (Int32.ofNat x / (Int32.ofInt 8)) / (Int32.ofInt 4) * (Int32.ofInt 4)).toNatClampNeg = x / 8 % 4 ∧ (((Int32.ofInt 1000) * ((Int32.ofNat x / (Int32.ofInt 8)) + (Int32.ofInt 1))) + (Int32.ofNat x - Int32.ofNat x / (Int32.ofInt 8) * (Int32.ofInt 8))) = ownI x := of_decide_eq_true (List.all_eq_true.mp (show ((List.range 40).all fun x => decide (((Int32.ofNat x / (Int32.ofInt 8)) - (Int32.ofNat x / (Int32.ofInt 8)) / (Int32.ofInt 4) * (Int32.ofInt 4)).toNatClampNeg = x / 8 % 4 ∧ (((Int32.ofInt 1000) * ((Int32.ofNat x / (Int32.ofInt 8)) + (Int32.ofInt 1))) + (Int32.ofNat x - Int32.ofNat x / (Int32.ofInt 8) * (Int32.ofInt 8))) = ownI x)) = true by decide +kernel) x (List.mem_range.mpr hx))
theorem rx_plain {h : Hp} {T x p d : Nat} {s : PS} {r : Option Value × Hp × Nat} (S : SH h.2) (A : AWF h T x) (B : RAP (h.1 224 T).toInt h s p) (hp : p ≤ 11) (e : Ev d 199 (0, [some (.ref 223), some (.int (Int32.ofNat x)), some (.int (Int32.ofNat T)), none, none, none, none, none, none, none, none], [], h, fl_tot) r) : ∃ (v : Int32) (h' : Hp), r = (some (.int v), h', fl_tot) ∧ FM h h' ∧ (v.toInt ≠ 0 ↔ okX h T x s) ∧ (okX h T x s → RAP (h.1 224 T).toInt h' (nxX h T x s) (p + 1)) := by
  obtain ⟨A1, A2, A3, A4, A5, x40, T6⟩ := A
  obtain ⟨O1, O2, O3, O4, O5⟩ := opx A1
  obtain ⟨B1, B2, B3⟩ := B
  have xn : (Int32.ofNat x).toNatClampNeg = x := o32c (by omega)
  have Tn : (Int32.ofNat T).toNatClampNeg = T := o32c (by omega)
  obtain ⟨xm, ow⟩ := xdm x40
  have HD : ADM h (Int32.ofNat x) (h.1 229 x) (h.1 230 x) (h.1 231 x) (h.1 239 x) (h.1 238 x) := by
    unfold ADM
    rw [xn]
    exact ⟨rfl, rfl, rfl, rfl, rfl⟩
  have hkT : ∀ k : Int, (h.1 224 T).toInt = k → (h.1 224 (Int32.ofNat T).toNatClampNeg).toInt = k := fun k z => by rw [Tn]; exact z
  rcases k6 O1 with hk | hk | hk | hk | hk | hk
  · rw [okX_0 hk, nxX_0 hk]
    obtain ⟨ka, k32⟩ := keyN (A2 (by omega))
    rw [ka] at HD
    obtain ⟨v, h', w, F, I, N⟩ := r_map S HD (hkT _ hk) (by omega) k32 (B1 (by omega)) e
    exact ⟨v, h', w, F, I, fun z => ⟨fun _ => N z, fun z => by omega, fun z => by omega⟩⟩
  · rw [okX_1 hk, nxX_1 hk]
    obtain ⟨v, h', w, F, I, N⟩ := r_queue S HD (hkT _ hk) hp (B2 (by omega)) e
    exact ⟨v, h', w, F, I, fun z => ⟨fun z => by omega, fun _ => N z, fun z => by omega⟩⟩
  · rw [okX_2 hk, nxX_2 hk]
    obtain ⟨v, h', w, F, I, N⟩ := r_deque S HD (hkT _ hk) hp (B2 (by omega)) O2 e
    rw [Tn] at I N
    exact ⟨v, h', w, F, I, fun z => ⟨fun z => by omega, fun _ => N z, fun z => by omega⟩⟩
  · rw [okX_3 hk, nxX_3 hk]
    obtain ⟨v, h', w, F, I, N⟩ := r_counter S HD (hkT _ hk) (by omega) (by omega) xm (B3 (by omega)) e
    exact ⟨v, h', w, F, I, fun z => ⟨fun z => by omega, fun z => by omega, fun _ => N z⟩⟩
  · rw [okX_4 hk, nxX_4 hk]
    obtain ⟨v, h', w, F, I, N⟩ := r_copies S HD (fun z => (keyN (A2 (by omega))).1) (hkT _ hk) (by omega) (fun z => (keyN (A2 (by omega))).2) (B1 (by omega)) e
    exact ⟨v, h', w, F, I, fun z => ⟨fun _ => N z, fun z => by omega, fun z => by omega⟩⟩
  · rw [okX_5 hk, nxX_5 hk]
    obtain ⟨ka, k32⟩ := keyN (A2 (by omega))
    rw [ka] at HD
    obtain ⟨v, h', w, F, I, N⟩ := r_once S HD (hkT _ hk) (by omega) k32 (by omega) ow (B1 (by omega)) e
    exact ⟨v, h', w, F, I, fun z => ⟨fun _ => N z, fun z => by omega, fun z => by omega⟩⟩

/-! THE EMPTY PICTURE -/
theorem CAP.zero {k : Int} {h : Hp} : CAP k (fl_setI (fl_setI (fl_setI (fl_setI (fl_fill h 214 64 (Int32.ofInt 0)) 213 1 (Int32.ofInt 0)) 213 2 (Int32.ofInt 0)) 213 3 (Int32.ofInt 0)) 213 4 (Int32.ofInt 0)) s0 0 := by
  refine ⟨fun _ j hj => ?_, fun _ => ⟨?_, Nat.le_refl _, fun j hj => absurd hj (Nat.not_lt_zero j), ?_, Nat.le_refl _⟩, fun _ m hm => ?_⟩
  · have e1 : (fl_setI (fl_setI (fl_setI (fl_setI (fl_fill h 214 64 (Int32.ofInt 0)) 213 1 (Int32.ofInt 0)) 213 2 (Int32.ofInt 0)) 213 3 (Int32.ofInt 0)) 213 4 (Int32.ofInt 0)).1 213 1 = Int32.ofInt 0 := by simp (disch := omega) only [setI_at, setI_no, fill_at, fill_no]
    rw [e1, hb_0]
    exact ⟨⟨fun z => (by cases z), fun z => (by cases z)⟩, fun v hv => (by cases hv)⟩
  · simp (disch := omega) only [setI_at, setI_no, fill_at, fill_no]
    rfl
  · simp (disch := omega) only [setI_at, setI_no, fill_at, fill_no]
    rfl
  · simp (disch := omega) only [setI_at, setI_no, fill_at, fill_no]
    rfl
theorem x_empty2 {d : Nat} {h : Hp} {k : Int} {r : Option Value × Hp × Nat} (S : SH h.2) (e : Ev d 29 (0, [some (.ref 213)], [], h, fl_tot) r) : ∃ h', r = (none, h', fl_tot) ∧ FP h h' ∧ CAP k h' s0 0 := by
  have w := y_empty (a := 213) (b := 214) S.plain_0 (by decide) (by decide) (show fl_lay 214 = (20, 64) by decide +kernel) e
  refine ⟨_, w, ?_, CAP.zero⟩
  have F : FP h (fl_fill h 214 64 (Int32.ofInt 0)) := ⟨fun r j z => fill_no (by omega), rfl⟩
  exact (((F.set (by omega)).set (by omega)).set (by omega)).set (by omega)
theorem ze_b {d : Nat} {h0 : Hp} {r : Option Value × Hp × Nat} (S0 : SH h0.2) : ∀ (n k : Nat) (h : Hp), k ≤ 4 → 4 - k < n → FM h0 h → h.1 223 68 = Int32.ofInt 0 → h.1 223 69 = Int32.ofInt 0 → (∀ j : Nat, j < 32 → h.1 278 j = Int32.ofInt 0) → (∀ j : Nat, j < k → h.1 281 j = Int32.ofInt 0) → Ev d 196 (40, [some (.ref 223), some (.int (Int32.ofNat k))], [], h, fl_tot) r → ∃ h', r = (none, h', fl_tot) ∧ FM h0 h' ∧ ∀ kd : Int, RAP kd h' s0 0
  | 0, k, h, hk, hn, F, a8, a9, b8, b1, e => by omega
  | n + 1, k, h, hk, hn, F, a8, a9, b8, b1, e => by
    have S : SH h.2 := by rw [F.2]; exact S0
    have ek := i32n (n := k) (by omega)
    have ekn : (Int32.ofNat k).toNatClampNeg = k := o32c (by omega)
    rcases zc_pe_b S e with ⟨q0, e⟩ | ⟨q0, e⟩
    · have k1 : k = 4 := by omega
      subst k1
      refine ⟨h, zc_pe_bx S e, F, fun kd => ⟨fun _ j hj => ⟨b8 j hj, fun v hv => by cases hv⟩, fun _ => ⟨a8, Nat.le_refl _, fun j hj => absurd hj (Nat.not_lt_zero j), a9, Nat.le_refl _⟩, fun _ m hm => b1 m hm⟩⟩
    · rw [ekn] at e
      have e := zc_pe_bi (h := fl_setI h 281 k (Int32.ofInt 0)) S e
      rw [o32 (by omega)] at e
      refine ze_b S0 n (k + 1) _ (by omega) (by omega) (F.set (by omega)) (by rw [setI_no (by omega)]; exact a8) (by rw [setI_no (by omega)]; exact a9) (fun j hj => by rw [setI_no (by omega)]; exact b8 j hj) (fun j hj => ?_) e
      by_cases z : j = k
      · rw [z, setI_at]
      · rw [setI_no (by omega)]
        exact b1 j (by omega)
theorem ze_a {d : Nat} {h0 : Hp} {r : Option Value × Hp × Nat} (S0 : SH h0.2) : ∀ (n k : Nat) (h : Hp), k ≤ 32 → 32 - k < n → FM h0 h → (∀ j : Nat, j < k → h.1 278 j = Int32.ofInt 0) → Ev d 196 (2, [some (.ref 223), some (.int (Int32.ofNat k))], [], h, fl_tot) r → ∃ h', r = (none, h', fl_tot) ∧ FM h0 h' ∧ ∀ kd : Int, RAP kd h' s0 0
  | 0, k, h, hk, hn, F, b8, e => by omega
  | n + 1, k, h, hk, hn, F, b8, e => by
    have S : SH h.2 := by rw [F.2]; exact S0
    have ek := i32n (n := k) (by omega)
    have ekn : (Int32.ofNat k).toNatClampNeg = k := o32c (by omega)
    rcases zc_pe_a S e with ⟨q0, e⟩ | ⟨q0, e⟩
    · have k1 : k = 32 := by omega
      subst k1
      have e := zc_pe_ax S e
      exact ze_b S0 5 0 _ (by omega) (by omega) ((F.set (by omega)).set (by omega)) (by rw [setI_no (by omega), setI_at]) (by rw [setI_at]) (fun j hj => by rw [setI_no (by omega), setI_no (by omega)]; exact b8 j hj) (fun j hj => by omega) e
    · rw [ekn] at e
      have e := zc_pe_ai (h := fl_setI (fl_setI h 278 k (Int32.ofInt 0)) 279 k (Int32.ofInt 0)) S e
      rw [o32 (by omega)] at e
      refine ze_a S0 n (k + 1) _ (by omega) (by omega) ((F.set (by omega)).set (by omega)) (fun j hj => ?_) e
      rw [setI_no (by omega)]
      by_cases z : j = k
      · rw [z, setI_at]
      · rw [setI_no (by omega)]
        exact b8 j (by omega)
theorem z_empty2 {d : Nat} {h : Hp} {r : Option Value × Hp × Nat} (S : SH h.2) (e : Ev d 196 (0, [some (.ref 223), none], [], h, fl_tot) r) : ∃ h', r = (none, h', fl_tot) ∧ FM h h' ∧ ∀ kd : Int, RAP kd h' s0 0 :=
  ze_a S 33 0 h (by omega) (by omega) (FM.refl h) (fun j hj => by omega) (zc_pe_0 S e)
/-! MAY IT COME -/
/-- the picture behind the places before d -/
def pics (g : Hp) (T : Nat) (q : Nat → Nat) : Nat → PS
  | 0 => s0
  | d + 1 => nxX g T (q d) (pics g T q d)
/-- what the pictures read -/
def RDs (g g' : Hp) : Prop := ∀ K j : Nat, K = 224 ∨ K = 225 ∨ K = 229 ∨ K = 230 ∨ K = 231 ∨ K = 238 ∨ K = 239 → g'.1 K j = g.1 K j
theorem okX_fr {g g' : Hp} (R : RDs g g') {T x : Nat} {s : PS} : okX g' T x s = okX g T x s := by
  unfold okX
  rw [R 224 T (by omega), R 225 T (by omega), R 229 x (by omega), R 230 x (by omega), R 231 x (by omega), R 238 x (by omega), R 239 x (by omega)]
theorem nxX_fr {g g' : Hp} (R : RDs g g') {T x : Nat} {s : PS} : nxX g' T x s = nxX g T x s := by
  unfold nxX
  rw [R 224 T (by omega), R 229 x (by omega), R 230 x (by omega), R 231 x (by omega), R 238 x (by omega), R 239 x (by omega)]
theorem AWF.fr {g g' : Hp} (R : RDs g g') {T x : Nat} (A : AWF g T x) : AWF g' T x := by
  unfold AWF
  rw [R 224 T (by omega), R 229 x (by omega), R 230 x (by omega), R 238 x (by omega), R 239 x (by omega)]
  exact A
theorem pics_fr {g g' : Hp} (R : RDs g g') {T : Nat} {q : Nat → Nat} : ∀ d : Nat, pics g' T q d = pics g T q d
  | 0 => rfl
  | d + 1 => by
    show nxX g' T (q d) (pics g' T q d) = nxX g T (q d) (pics g T q d)
    rw [pics_fr R d, nxX_fr R]
theorem FM.rds {g g' : Hp} (F : FM g g') : RDs g g' := fun K j z => F.1 K j (by omega) (by omega)
theorem RDs.trans {a b c : Hp} (x : RDs a b) (y : RDs b c) : RDs a c := fun K j z => (y K j z).trans (x K j z)
theorem RDs.refl (a : Hp) : RDs a a := fun _ _ _ => rfl
/-- what is taken: M acts, with their numbers -/
def TAK (g : Hp) (T M : Nat) (tk : Nat → Nat) : Prop := (M ≤ 12 ∧ g.1 223 60 = Int32.ofNat M) ∧ ∀ k : Nat, k < M → g.1 274 k = Int32.ofNat (tk k) ∧ AWF g T (tk k)
/-- must k end before i begins -/
def AHx (g : Hp) (tk : Nat → Nat) (k i : Nat) : Prop := (g.1 242 (tk k)).toInt < (g.1 241 (tk i)).toInt
theorem b199 {d d' T x : Nat} {h : Hp} {pc nx : Nat} {ls : List (Option Value)} {r : Option Value × Hp × Nat} (hc : fl_code 198 pc = some (18, [((199 : Nat) : Int), ((2 : Nat) : Int)], nx)) (e : Ev d 198 (pc, ls, [.int (Int32.ofNat T), .int (Int32.ofNat x), .ref 223], h, fl_tot) r) : ∃ (d' : Nat) (v3 : Option Value) (h3 : Hp) (n3 : Nat), Ev d' 199 (0, [some (.ref 223), some (.int (Int32.ofNat x)), some (.int (Int32.ofNat T)), none, none, none, none, none, none, none, none], [], h, fl_tot) (v3, h3, n3) ∧ Ev d 198 (nx, ls, v3.toList ++ [], h3, n3) r := by
  obtain ⟨d3, v3, h3, n3, z3, ec3, e⟩ := b_call (m2 := 199) (k := 2) (nL := 11) (as := [.ref 223, .int (Int32.ofNat x), .int (Int32.ofNat T)]) (rest := []) (L := [some (.ref 223), some (.int (Int32.ofNat x)), some (.int (Int32.ofNat T)), none, none, none, none, none, none, none, none]) e hc rfl (by decide +kernel) rfl rfl rfl
  exact ⟨d3, v3, h3, n3, ec3, e⟩
theorem mc_rep {d T M p : Nat} {g : Hp} {tk pl : Nat → Nat} {i : Int32} {r : Option Value × Hp × Nat} (S0 : SH g.2) (A : TAK g T M tk) (hp : p ≤ 11) (P : ∀ d : Nat, d < p → g.1 275 d = Int32.ofNat (pl d) ∧ pl d < M ∧ okX g T (tk (pl d)) (pics g T (fun d => tk (pl d)) d)) : ∀ (n k : Nat) (h : Hp), k ≤ p → p - k < n → FM g h → RAP (g.1 224 T).toInt h (pics g T (fun d => tk (pl d)) k) k → Ev d 198 (69, [some (.ref 223), some (.int i), some (.int (Int32.ofNat p)), some (.int (Int32.ofNat T)), some (.int (Int32.ofNat k))], [], h, fl_tot) r → ∃ h', FM g h' ∧ RAP (g.1 224 T).toInt h' (pics g T (fun d => tk (pl d)) p) p ∧ Ev d 198 (107, [some (.ref 223), some (.int i), some (.int (Int32.ofNat p)), some (.int (Int32.ofNat T)), some (.int (Int32.ofNat p))], [.int (Int32.ofNat T), .int (h'.1 274 i.toNatClampNeg), .ref 223], h', fl_tot) r
  | 0, k, h, hk, hn, F, R, e => by omega
  | n + 1, k, h, hk, hn, F, R, e => by
    have S : SH h.2 := by rw [F.2]; exact S0
    have ek := i32n (n := k) (by omega)
    have ep := i32n (n := p) (by omega)
    have ekn : (Int32.ofNat k).toNatClampNeg = k := o32c (by omega)
    rcases zc_mc_d S e with ⟨q0, e⟩ | ⟨q0, e⟩
    · have k1 : k = p := by omega
      subst k1
      exact ⟨h, F, R, e⟩
    · obtain ⟨p1, p2, p3⟩ := P k (by omega)
      have m12 := A.1.1
      obtain ⟨a1, a2⟩ := A.2 (pl k) p2
      rw [ekn, F.1 275 k (by omega) (by omega), p1, o32c (by omega), F.1 274 _ (by omega) (by omega), a1] at e
      obtain ⟨d3, v3, h3, n3, ec3, e⟩ := b199 (d' := 0) (show fl_code 198 89 = some (18, [((199 : Nat) : Int), ((2 : Nat) : Int)], 92) by decide +kernel) e
      have ekd : (h.1 224 T).toInt = (g.1 224 T).toInt := by rw [F.1 224 T (by omega) (by omega)]
      obtain ⟨v, h', w, F2, I, N⟩ := rx_plain S (a2.fr F.rds) (by rw [ekd]; exact R) (by omega) ec3
      obtain ⟨wa, wb, wc⟩ := tri w
      rw [wa, wb, wc] at e
      have F3 := F.trans F2
      have S3 : SH h'.2 := by rw [F3.2]; exact S0
      have e := zc_mc_di S3 e
      rw [o32 (by omega)] at e
      rw [okX_fr F.rds, nxX_fr F.rds, ekd] at N
      exact mc_rep S0 A hp P n (k + 1) h' (by omega) (by omega) F3 (N p3) e
theorem mc_ah {d T M p i : Nat} {g : Hp} {tk : Nat → Nat} {r : Option Value × Hp × Nat} (S : SH g.2) (A : TAK g T M tk) (hi : i < M) : ∀ (n k : Nat), k ≤ M → M - k < n → (∀ j : Nat, j < k → (g.1 276 j).toInt = 0 → j ≠ i → ¬ AHx g tk j i) → Ev d 198 (3, [some (.ref 223), some (.int (Int32.ofNat i)), some (.int (Int32.ofNat p)), some (.int (Int32.ofNat T)), some (.int (Int32.ofNat k))], [], g, fl_tot) r → (¬ (∀ j : Nat, j < M → (g.1 276 j).toInt = 0 → j ≠ i → ¬ AHx g tk j i) ∧ r = (some (.int (Int32.ofInt 0)), g, fl_tot)) ∨ ((∀ j : Nat, j < M → (g.1 276 j).toInt = 0 → j ≠ i → ¬ AHx g tk j i) ∧ Ev d 198 (62, [some (.ref 223), some (.int (Int32.ofNat i)), some (.int (Int32.ofNat p)), some (.int (Int32.ofNat T)), some (.int (Int32.ofNat M))], [], g, fl_tot) r)
  | 0, k, hk, hn, I, e => by omega
  | n + 1, k, hk, hn, I, e => by
    have m12 := A.1.1
    have ek := i32n (n := k) (by omega)
    have eM := i32n (n := M) (by omega)
    have ei := i32n (n := i) (by omega)
    have ekn : (Int32.ofNat k).toNatClampNeg = k := o32c (by omega)
    have ein : (Int32.ofNat i).toNatClampNeg = i := o32c (by omega)
    have W := zc_mc_l S e
    rw [ekn, ein, A.1.2] at W
    have next : ∀ (_ : (g.1 276 k).toInt = 0 → k ≠ i → ¬ AHx g tk k i) (_ : k < M) (_ : Ev d 198 (56, [some (.ref 223), some (.int (Int32.ofNat i)), some (.int (Int32.ofNat p)), some (.int (Int32.ofNat T)), some (.int (Int32.ofNat k))], [], g, fl_tot) r), (¬ (∀ j : Nat, j < M → (g.1 276 j).toInt = 0 → j ≠ i → ¬ AHx g tk j i) ∧ r = (some (.int (Int32.ofInt 0)), g, fl_tot)) ∨ ((∀ j : Nat, j < M → (g.1 276 j).toInt = 0 → j ≠ i → ¬ AHx g tk j i) ∧ Ev d 198 (62, [some (.ref 223), some (.int (Int32.ofNat i)), some (.int (Int32.ofNat p)), some (.int (Int32.ofNat T)), some (.int (Int32.ofNat M))], [], g, fl_tot) r) := fun y1 y2 e => by
      have e := zc_mc_li S e
      rw [o32 (by omega)] at e
      refine mc_ah S A hi n (k + 1) (by omega) (by omega) (fun j hj => ?_) e
      by_cases z : j = k
      · rw [z]; exact y1
      · exact I j (by omega)
    rcases W with ⟨q0, e⟩ | ⟨q0, q1, e⟩ | ⟨q0, q1, q2, e⟩ | ⟨q0, q1, q2, q3, e⟩ | ⟨q0, q1, q2, q3, w⟩
    · have k1 : k = M := by omega
      subst k1
      exact Or.inr ⟨I, e⟩
    · exact next (fun z => absurd z q1) (by omega) e
    · exact next (fun _ z => absurd (by omega) z) (by omega) e
    · have k2 : k < M := by omega
      rw [(A.2 k k2).1, (A.2 i hi).1] at q3
      rw [o32c (by have := (A.2 k k2).2.2.2.2.2.2.1; omega), o32c (by have := (A.2 i hi).2.2.2.2.2.2.1; omega)] at q3
      exact next (fun _ _ z => by unfold AHx at z; omega) k2 e
    · have k2 : k < M := by omega
      rw [(A.2 k k2).1, (A.2 i hi).1] at q3
      rw [o32c (by have := (A.2 k k2).2.2.2.2.2.2.1; omega), o32c (by have := (A.2 i hi).2.2.2.2.2.2.1; omega)] at q3
      exact Or.inl ⟨fun z => z k k2 q1 (by omega) q3, w⟩
theorem z_may {d T M p i : Nat} {g : Hp} {tk pl : Nat → Nat} {r : Option Value × Hp × Nat} (S : SH g.2) (A : TAK g T M tk) (hi : i < M) (hp : p ≤ 11) (P : ∀ d : Nat, d < p → g.1 275 d = Int32.ofNat (pl d) ∧ pl d < M ∧ okX g T (tk (pl d)) (pics g T (fun d => tk (pl d)) d)) (e : Ev d 198 (0, [some (.ref 223), some (.int (Int32.ofNat i)), some (.int (Int32.ofNat p)), some (.int (Int32.ofNat T)), none], [], g, fl_tot) r) : ∃ (v : Int32) (h' : Hp), r = (some (.int v), h', fl_tot) ∧ FM g h' ∧ (v.toInt ≠ 0 ↔ (∀ j : Nat, j < M → (g.1 276 j).toInt = 0 → j ≠ i → ¬ AHx g tk j i) ∧ okX g T (tk i) (pics g T (fun d => tk (pl d)) p)) ∧ (v.toInt ≠ 0 → RAP (g.1 224 T).toInt h' (nxX g T (tk i) (pics g T (fun d => tk (pl d)) p)) (p + 1)) := by
  have m12 := A.1.1
  rcases mc_ah S A hi (M + 1) 0 (by omega) (by omega) (fun j hj => by omega) (zc_mc_0 S e) with ⟨n1, w⟩ | ⟨y1, e⟩
  · exact ⟨_, g, w, FM.refl g, ⟨fun z => absurd rfl z, fun z => absurd z.1 n1⟩, fun z => absurd rfl z⟩
  · have e := zc_mc_1 S e
    obtain ⟨d3, v3, h3, n3, z3, ec3, e⟩ := b_call (m2 := 196) (k := 0) (nL := 2) (as := [.ref 223]) (rest := []) (L := [some (.ref 223), none]) e (show fl_code 198 63 = some (18, [((196 : Nat) : Int), ((0 : Nat) : Int)], 66) by decide +kernel) rfl (by decide +kernel) rfl rfl rfl
    obtain ⟨h1, w1, F1, R1⟩ := z_empty2 S ec3
    obtain ⟨wa, wb, wc⟩ := tri w1
    rw [wa, wb, wc] at e
    have S1 : SH h1.2 := by rw [F1.2]; exact S
    have e := zc_mc_2 S1 e
    obtain ⟨h2, F2, R2, e⟩ := mc_rep S A hp P (p + 1) 0 h1 (by omega) (by omega) F1 (R1 _) e
    have S2 : SH h2.2 := by rw [F2.2]; exact S
    obtain ⟨a1, a2⟩ := A.2 i hi
    rw [o32c (by omega), F2.1 274 i (by omega) (by omega), a1] at e
    obtain ⟨d4, v4, h4, n4, ec4, e⟩ := b199 (d' := 0) (show fl_code 198 107 = some (18, [((199 : Nat) : Int), ((2 : Nat) : Int)], 110) by decide +kernel) e
    have ekd : (h2.1 224 T).toInt = (g.1 224 T).toInt := by rw [F2.1 224 T (by omega) (by omega)]
    obtain ⟨v, h', w, F3, I, N⟩ := rx_plain S2 (a2.fr F2.rds) (by rw [ekd]; exact R2) hp ec4
    obtain ⟨wa, wb, wc⟩ := tri w
    rw [wa, wb, wc] at e
    rw [okX_fr F2.rds] at I N
    rw [nxX_fr F2.rds, ekd] at N
    have F4 := F2.trans F3
    exact ⟨v, h', zc_mc_x (by rw [F4.2]; exact S) e, F4, ⟨fun z => ⟨y1, I.mp z⟩, fun z => I.mpr z.2⟩, fun z => N (I.mp z)⟩
