
set_option maxRecDepth 20000
/-! STRIPES ON BOTH SIDES: numbers -/
theorem an7 {q : Nat} (hq : q < 8) : (Int32.ofNat q &&& Int32.ofInt 7).toNatClampNeg = q := by
  exact of_decide_eq_true (List.all_eq_true.mp (show ((List.range 8).all fun q => decide ((Int32.ofNat q &&& Int32.ofInt 7).toNatClampNeg = q)) = true by decide +kernel) q (List.mem_range.mpr hq))
theorem msk0 {q n : Nat} (hq : q < 8) (hn : n = 1 ∨ n = 2 ∨ n = 4) : ((Int32.ofNat q &&& (Int32.ofNat n - Int32.ofInt 1)) &&& Int32.ofInt 7).toNatClampNeg = q % n := by
  exact of_decide_eq_true (List.all_eq_true.mp (List.all_eq_true.mp (show ((List.range 8).all fun q => ([1, 2, 4]).all fun n => decide (((Int32.ofNat q &&& (Int32.ofNat n - Int32.ofInt 1)) &&& Int32.ofInt 7).toNatClampNeg = q % n)) = true by decide +kernel) q (List.mem_range.mpr hq)) n (by rcases hn with rfl | rfl | rfl <;> simp))
theorem msk1 {q n : Nat} (hq : q < 8) (hn : n = 1 ∨ n = 2 ∨ n = 4) : ((Int32.ofNat q &&& ((Int32.ofInt 1) * Int32.ofNat n - Int32.ofInt 1)) &&& Int32.ofInt 7).toNatClampNeg = q % n := by
  exact of_decide_eq_true (List.all_eq_true.mp (List.all_eq_true.mp (show ((List.range 8).all fun q => ([1, 2, 4]).all fun n => decide (((Int32.ofNat q &&& ((Int32.ofInt 1) * Int32.ofNat n - Int32.ofInt 1)) &&& Int32.ofInt 7).toNatClampNeg = q % n)) = true by decide +kernel) q (List.mem_range.mpr hq)) n (by rcases hn with rfl | rfl | rfl <;> simp))
theorem msk2 {q n : Nat} (hq : q < 8) (hn : n = 1 ∨ n = 2 ∨ n = 4) : ((Int32.ofNat q &&& ((Int32.ofInt 2) * Int32.ofNat n - Int32.ofInt 1)) &&& Int32.ofInt 7).toNatClampNeg = q % (2 * n) := by
  exact of_decide_eq_true (List.all_eq_true.mp (List.all_eq_true.mp (show ((List.range 8).all fun q => ([1, 2, 4]).all fun n => decide (((Int32.ofNat q &&& ((Int32.ofInt 2) * Int32.ofNat n - Int32.ofInt 1)) &&& Int32.ofInt 7).toNatClampNeg = q % (2 * n))) = true by decide +kernel) q (List.mem_range.mpr hq)) n (by rcases hn with rfl | rfl | rfl <;> simp))
theorem k_s {q s : Nat} (hq : q < 8) (hs : s < 4) : Int32.ofNat (4 * q + s) - Int32.ofNat (4 * q + s) / Int32.ofInt 4 * Int32.ofInt 4 = Int32.ofNat s := by
  exact of_decide_eq_true (List.all_eq_true.mp (List.all_eq_true.mp (show ((List.range 8).all fun q => (List.range 4).all fun s => decide (Int32.ofNat (4 * q + s) - Int32.ofNat (4 * q + s) / Int32.ofInt 4 * Int32.ofInt 4 = Int32.ofNat s)) = true by decide +kernel) q (List.mem_range.mpr hq)) s (List.mem_range.mpr hs))
theorem k_t {t s : Nat} (ht : t < 6) (hs : s < 4) : (Int32.ofInt 4) * Int32.ofNat t + Int32.ofNat s = Int32.ofNat (4 * t + s) := by
  exact of_decide_eq_true (List.all_eq_true.mp (List.all_eq_true.mp (show ((List.range 6).all fun t => (List.range 4).all fun s => decide ((Int32.ofInt 4) * Int32.ofNat t + Int32.ofNat s = Int32.ofNat (4 * t + s))) = true by decide +kernel) t (List.mem_range.mpr ht)) s (List.mem_range.mpr hs))
theorem rwm1 {q s n : Nat} (hq : q < 8) (hs : s < 4) (hn : n = 1 ∨ n = 2 ∨ n = 4) : (Int32.ofNat (4 * q + s) / Int32.ofInt 4) - (Int32.ofNat (4 * q + s) / Int32.ofInt 4) / Int32.ofNat n * Int32.ofNat n = Int32.ofNat (q % n) := by
  exact of_decide_eq_true (List.all_eq_true.mp (List.all_eq_true.mp (List.all_eq_true.mp (show ((List.range 8).all fun q => (List.range 4).all fun s => ([1, 2, 4]).all fun n => decide ((Int32.ofNat (4 * q + s) / Int32.ofInt 4) - (Int32.ofNat (4 * q + s) / Int32.ofInt 4) / Int32.ofNat n * Int32.ofNat n = Int32.ofNat (q % n))) = true by decide +kernel) q (List.mem_range.mpr hq)) s (List.mem_range.mpr hs)) n (by rcases hn with rfl | rfl | rfl <;> simp))
theorem rwm2 {q s n : Nat} (hq : q < 8) (hs : s < 4) (hn : n = 1 ∨ n = 2 ∨ n = 4) : (Int32.ofNat (4 * q + s) / Int32.ofInt 4) - (Int32.ofNat (4 * q + s) / Int32.ofInt 4) / ((Int32.ofInt 2) * Int32.ofNat n) * ((Int32.ofInt 2) * Int32.ofNat n) = Int32.ofNat (q % (2 * n)) := by
  exact of_decide_eq_true (List.all_eq_true.mp (List.all_eq_true.mp (List.all_eq_true.mp (show ((List.range 8).all fun q => (List.range 4).all fun s => ([1, 2, 4]).all fun n => decide ((Int32.ofNat (4 * q + s) / Int32.ofInt 4) - (Int32.ofNat (4 * q + s) / Int32.ofInt 4) / ((Int32.ofInt 2) * Int32.ofNat n) * ((Int32.ofInt 2) * Int32.ofNat n) = Int32.ofNat (q % (2 * n)))) = true by decide +kernel) q (List.mem_range.mpr hq)) s (List.mem_range.mpr hs)) n (by rcases hn with rfl | rfl | rfl <;> simp))
theorem two_n {n : Nat} (hn : n = 1 ∨ n = 2 ∨ n = 4) : (Int32.ofInt 2) * Int32.ofNat n = Int32.ofNat (2 * n) := by
  exact of_decide_eq_true (List.all_eq_true.mp (show (([1, 2, 4]).all fun n => decide ((Int32.ofInt 2) * Int32.ofNat n = Int32.ofNat (2 * n))) = true by decide +kernel) n (by rcases hn with rfl | rfl | rfl <;> simp))
theorem ad4 {n : Nat} (hn : n < 40) : Int32.ofNat n + Int32.ofInt 4 = Int32.ofNat (n + 4) := by
  exact of_decide_eq_true (List.all_eq_true.mp (show ((List.range 40).all fun n => decide (Int32.ofNat n + Int32.ofInt 4 = Int32.ofNat (n + 4))) = true by decide +kernel) n (List.mem_range.mpr hn))
theorem ckq {q s : Nat} (hq : q < 8) (hs : s < 4) : ((Int32.ofNat (4 * q + s)) >>> ((Int32.ofInt 2) &&& 31)) &&& (Int32.ofInt 7) = Int32.ofNat q ∧ (Int32.ofNat (4 * q + s) &&& Int32.ofInt 3).toNatClampNeg = s := by
  exact of_decide_eq_true (List.all_eq_true.mp (List.all_eq_true.mp (show ((List.range 8).all fun q => (List.range 4).all fun s => decide (((Int32.ofNat (4 * q + s)) >>> ((Int32.ofInt 2) &&& 31)) &&& (Int32.ofInt 7) = Int32.ofNat q ∧ (Int32.ofNat (4 * q + s) &&& Int32.ofInt 3).toNatClampNeg = s)) = true by decide +kernel) q (List.mem_range.mpr hq)) s (List.mem_range.mpr hs))
theorem ofN_inj {a b : Nat} (ha : a < 1000) (hb : b < 1000) (e : Int32.ofNat a = Int32.ofNat b) : a = b := by
  have := congrArg Int32.toInt e
  rw [i32n (by omega), i32n (by omega)] at this
  omega
theorem m1ne {a : Nat} (h : a < 1000) : Int32.ofNat a ≠ Int32.ofInt (-1) := fun e => by
  have := congrArg Int32.toInt e
  rw [i32n (by omega), show (Int32.ofInt (-1)).toInt = -1 by decide] at this
  omega
theorem m1i : (Int32.ofInt (-1)).toInt = -1 := by decide
theorem n_q {q n : Nat} (hq : q < 8) (hn : n = 1 ∨ n = 2 ∨ n = 4) : q % n < n ∧ q % (2 * n) < 8 := by
  rcases hn with rfl | rfl | rfl <;> omega
/-! THE NEXT CARD OF A ROW, of a run that ends -/
def nxV (h : Hp) (t s : Nat) (fr r bf : Int) (n : Nat) (v : Int32) : Prop := (v = Int32.ofInt (-1) ∧ ∀ x, x < n → x < 8 → ¬ (inP h t s fr r x ∧ kS h t s x < bf)) ∨ ∃ q, q < 8 ∧ v = Int32.ofNat (4 * q + s) ∧ (inP h t s fr r q ∧ kS h t s q < bf) ∧ ∀ x, x < n → x < 8 → inP h t s fr r x → kS h t s x < bf → kS h t s x ≤ kS h t s q
section NXV
variable {h : Hp} {t s n : Nat} {fr r bf : Int} {v : Int32}
theorem nxV.skip (p : nxV h t s fr r bf n v) (z : ¬ (inP h t s fr r n ∧ kS h t s n < bf)) : nxV h t s fr r bf (n + 1) v := by
  rcases p with ⟨p1, p2⟩ | ⟨q, p1, p2, p3, p4⟩
  · refine Or.inl ⟨p1, fun x hx h8 y => ?_⟩
    by_cases e : x = n
    · rw [e] at y; exact z y
    · exact p2 x (by omega) h8 y
  · refine Or.inr ⟨q, p1, p2, p3, fun x hx h8 y1 y2 => ?_⟩
    by_cases e : x = n
    · rw [e] at y1 y2; exact absurd ⟨y1, y2⟩ z
    · exact p4 x (by omega) h8 y1 y2
theorem nxV.keep (s4 : s < 4) (p : nxV h t s fr r bf n v) (hv : ∃ q, q < 8 ∧ v = Int32.ofNat (4 * q + s) ∧ kS h t s n ≤ kS h t s q) : nxV h t s fr r bf (n + 1) v := by
  obtain ⟨q0, a, b, c⟩ := hv
  rcases p with ⟨p1, p2⟩ | ⟨q, p1, p2, p3, p4⟩
  · exact absurd (b.symm.trans p1) (m1ne (by omega))
  · have e := ofN_inj (by omega) (by omega) (p2.symm.trans b)
    have e : q = q0 := by omega
    subst e
    refine Or.inr ⟨q, p1, p2, p3, fun x hx h8 y1 y2 => ?_⟩
    by_cases e : x = n
    · rw [e]; exact c
    · exact p4 x (by omega) h8 y1 y2
theorem nxV.take (s4 : s < 4) (p : nxV h t s fr r bf n v) (hn : n < 8) (i : inP h t s fr r n) (b : kS h t s n < bf) (hv : v = Int32.ofInt (-1) ∨ ∃ q, q < 8 ∧ v = Int32.ofNat (4 * q + s) ∧ kS h t s q < kS h t s n) : nxV h t s fr r bf (n + 1) (Int32.ofNat (4 * n + s)) := by
  refine Or.inr ⟨n, hn, rfl, ⟨i, b⟩, fun x hx h8 y1 y2 => ?_⟩
  by_cases e : x = n
  · rw [e]; exact Int.le_refl _
  · rcases p with ⟨p1, p2⟩ | ⟨q, p1, p2, p3, p4⟩
    · exact absurd ⟨y1, y2⟩ (p2 x (by omega) h8)
    · rcases hv with hv | ⟨q0, a, b, c⟩
      · exact absurd (p2.symm.trans hv) (m1ne (by omega))
      · have e := ofN_inj (by omega) (by omega) (p2.symm.trans b)
        have e : q = q0 := by omega
        subst e
        have := p4 x (by omega) h8 y1 y2
        omega
theorem nxV.q (p : nxV h t s fr r bf n v) (z : v.toInt ≠ -1) : ∃ q, q < 8 ∧ v = Int32.ofNat (4 * q + s) := by
  rcases p with ⟨p1, p2⟩ | ⟨q, p1, p2, p3, p4⟩
  · exact absurd (by rw [p1]; exact m1i) z
  · exact ⟨q, p1, p2⟩
end NXV
theorem z_nx_l {d t s : Nat} {h : Hp} {fr ro bf : Int32} {r : Option Value × Hp × Nat} (S : SH h.2) (t6 : t < 6) (s4 : s < 4) : ∀ (f n : Nat) {fo : Int32} {o8 o9 : Option Value}, n ≤ 8 → 9 - n ≤ f → nxV h t s fr.toInt ro.toInt bf.toInt n fo → Ev d 165 (6, [some (.ref 223), some (.int (Int32.ofNat t)), some (.int (Int32.ofNat s)), some (.int fr), some (.int ro), some (.int bf), some (.int fo), some (.int (Int32.ofNat (4 * n + s))), o8, o9], [], h, fl_tot) r → ∃ v, r = (some (.int v), h, fl_tot) ∧ nxV h t s fr.toInt ro.toInt bf.toInt 8 v
  | 0, n, fo, o8, o9, hn, hf, p, e => by omega
  | f + 1, n, fo, o8, o9, hn, hf, p, e => by
    have ix : ((Int32.ofInt 32) * Int32.ofNat t + Int32.ofNat (4 * n + s)).toNatClampNeg = 32 * t + (4 * n + s) := i32k (by omega) (by omega)
    have en := i32n (n := 4 * n + s) (by omega)
    have e4 : Int32.ofNat (4 * n + s) + Int32.ofInt 4 = Int32.ofNat (4 * (n + 1) + s) := (ad4 (by omega)).trans (by rw [show 4 * n + s + 4 = 4 * (n + 1) + s by omega])
    have V := zs_no_l S e
    rw [ix, e4, en] at V
    rcases V with ⟨c1, w⟩ | ⟨c1, c2, e⟩ | ⟨c1, c2, c3, e⟩ | ⟨c1, c2, c3, c4, e⟩ | ⟨c1, c2, c3, c4, c5, e⟩ | ⟨c1, c2, c3, c4, c5, c6, e⟩ | ⟨c1, c2, c3, c4, c5, c6, c7, e⟩ | ⟨c1, c2, c3, c4, c5, c6, c7, e⟩
    · have n8 : n = 8 := by omega
      subst n8
      exact ⟨fo, w, p⟩
    · exact z_nx_l S t6 s4 f (n + 1) (by omega) (by omega) (p.skip fun z => z.1.1 c2) e
    · exact z_nx_l S t6 s4 f (n + 1) (by omega) (by omega) (p.skip fun z => c3 z.1.2.1) e
    · exact z_nx_l S t6 s4 f (n + 1) (by omega) (by omega) (p.skip fun z => c4 z.1.2.2) e
    · exact z_nx_l S t6 s4 f (n + 1) (by omega) (by omega) (p.skip fun z => by have := z.2; unfold kS at this; omega) e
    · exact z_nx_l S t6 s4 f (n + 1) (by omega) (by omega) (p.take s4 (by omega) ⟨c2, c3, c4⟩ c5 (Or.inl (Int32.toInt_inj.mp (c6.trans m1i.symm)))) e
    · obtain ⟨q, hq, eq⟩ := p.q c6
      rw [eq, i32k (by omega) (by omega)] at c7
      exact z_nx_l S t6 s4 f (n + 1) (by omega) (by omega) (p.keep s4 ⟨q, hq, eq, c7⟩) e
    · obtain ⟨q, hq, eq⟩ := p.q c6
      rw [eq, i32k (by omega) (by omega)] at c7
      exact z_nx_l S t6 s4 f (n + 1) (by omega) (by omega) (p.take s4 (by omega) ⟨c2, c3, c4⟩ c5 (Or.inr ⟨q, hq, eq, by unfold kS; omega⟩)) e
theorem z_nx {d t s : Nat} {h : Hp} {fr ro bf : Int32} {r : Option Value × Hp × Nat} (S : SH h.2) (t6 : t < 6) (s4 : s < 4) (e : Ev d 165 (0, [some (.ref 223), some (.int (Int32.ofNat t)), some (.int (Int32.ofNat s)), some (.int fr), some (.int ro), some (.int bf), none, none, none, none], [], h, fl_tot) r) : ∃ v, r = (some (.int v), h, fl_tot) ∧ nxV h t s fr.toInt ro.toInt bf.toInt 8 v := by
  have e := zs_no_0 S e
  have e : Ev d 165 (6, [some (.ref 223), some (.int (Int32.ofNat t)), some (.int (Int32.ofNat s)), some (.int fr), some (.int ro), some (.int bf), some (.int (Int32.ofInt (-1))), some (.int (Int32.ofNat (4 * 0 + s))), none, none], [], h, fl_tot) r := by
    rw [Nat.mul_zero, Nat.zero_add]
    exact e
  exact z_nx_l S t6 s4 9 0 (by omega) (by omega) (Or.inl ⟨rfl, fun x hx => absurd hx (Nat.not_lt_zero x)⟩) e
theorem z_hd {d t s : Nat} {h : Hp} {fr ro : Int32} {r : Option Value × Hp × Nat} (S : SH h.2) (t6 : t < 6) (s4 : s < 4) (e : Ev d 164 (0, [some (.ref 223), some (.int (Int32.ofNat t)), some (.int (Int32.ofNat s)), some (.int fr), some (.int ro)], [], h, fl_tot) r) : ∃ v, r = (some (.int v), h, fl_tot) ∧ nxV h t s fr.toInt ro.toInt (h.1 223 42 + Int32.ofInt 1).toInt 8 v := by
  have e := zs_ho S e
  obtain ⟨d3, v3, h3, n3, z3, ec3, e⟩ := b_call (m2 := 165) (k := 5) (nL := 10) (as := [.ref 223, .int (Int32.ofNat t), .int (Int32.ofNat s), .int fr, .int ro, .int (h.1 223 42 + Int32.ofInt 1)]) (rest := []) (L := [some (.ref 223), some (.int (Int32.ofNat t)), some (.int (Int32.ofNat s)), some (.int fr), some (.int ro), some (.int (h.1 223 42 + Int32.ofInt 1)), none, none, none, none]) e (show fl_code 164 12 = some (18, [((165 : Nat) : Int), ((5 : Nat) : Int)], 15) by decide +kernel) rfl (by decide +kernel) rfl rfl rfl
  obtain ⟨v, w, p⟩ := z_nx S t6 s4 ec3
  obtain ⟨w1, w2, w3⟩ := tri w
  rw [w1, w2, w3] at e
  have e : Ev d 164 (15, [some (.ref 223), some (.int (Int32.ofNat t)), some (.int (Int32.ofNat s)), some (.int fr), some (.int ro)], [.int v], h, fl_tot) r := e
  exact ⟨v, b22 e (show fl_code 164 15 = some (22, [0], 16) by decide +kernel), p⟩
/-- how many cards a stripe has -/
theorem z_ci_l {d t s : Nat} {h : Hp} {r : Option Value × Hp × Nat} (S : SH h.2) (t6 : t < 6) (s4 : s < 4) : ∀ (f n : Nat), n ≤ 8 → 9 - n ≤ f → Ev d 171 (5, [some (.ref 223), some (.int (Int32.ofNat t)), some (.int (Int32.ofNat s)), some (.int (Int32.ofNat (nH h t s n))), some (.int (Int32.ofNat (4 * n + s)))], [], h, fl_tot) r → r = (some (.int (Int32.ofNat (nH h t s 8))), h, fl_tot)
  | 0, n, hn, hf, e => by omega
  | f + 1, n, hn, hf, e => by
    have ix : ((Int32.ofInt 32) * Int32.ofNat t + Int32.ofNat (4 * n + s)).toNatClampNeg = 32 * t + (4 * n + s) := i32k (by omega) (by omega)
    have en := i32n (n := 4 * n + s) (by omega)
    have e4 : Int32.ofNat (4 * n + s) + Int32.ofInt 4 = Int32.ofNat (4 * (n + 1) + s) := (ad4 (by omega)).trans (by rw [show 4 * n + s + 4 = 4 * (n + 1) + s by omega])
    have hl := nH_le h t s n
    have V := zs_ci_l S e
    rw [ix, e4, en] at V
    rcases V with ⟨c1, w⟩ | ⟨c1, c2, e⟩ | ⟨c1, c2, e⟩
    · have n8 : n = 8 := by omega
      subst n8
      exact w
    · have q : nH h t s (n + 1) = nH h t s n := by
        show nH h t s n + (if kH h t s n = 0 then 0 else 1) = nH h t s n
        simp only [if_pos (show kH h t s n = 0 from c2), Nat.add_zero]
      rw [show Int32.ofNat (nH h t s n) + Int32.ofInt 0 = Int32.ofNat (nH h t s (n + 1)) by rw [q]; exact Int32.add_zero _] at e
      exact z_ci_l S t6 s4 f (n + 1) (by omega) (by omega) e
    · have q : nH h t s (n + 1) = nH h t s n + 1 := by
        show nH h t s n + (if kH h t s n = 0 then 0 else 1) = nH h t s n + 1
        rw [if_neg (show ¬ kH h t s n = 0 from c2)]
      rw [show Int32.ofNat (nH h t s n) + Int32.ofInt 1 = Int32.ofNat (nH h t s (n + 1)) by rw [q]; exact o32 (by omega)] at e
      exact z_ci_l S t6 s4 f (n + 1) (by omega) (by omega) e
theorem z_ci {d t s : Nat} {h : Hp} {r : Option Value × Hp × Nat} (S : SH h.2) (t6 : t < 6) (s4 : s < 4) (e : Ev d 171 (0, [some (.ref 223), some (.int (Int32.ofNat t)), some (.int (Int32.ofNat s)), none, none], [], h, fl_tot) r) : r = (some (.int (Int32.ofNat (nH h t s 8))), h, fl_tot) := by
  have e := zs_ci_0 S e
  have e : Ev d 171 (5, [some (.ref 223), some (.int (Int32.ofNat t)), some (.int (Int32.ofNat s)), some (.int (Int32.ofNat (nH h t s 0))), some (.int (Int32.ofNat (4 * 0 + s)))], [], h, fl_tot) r := by
    rw [Nat.mul_zero, Nat.zero_add]
    exact e
  exact z_ci_l S t6 s4 9 0 (by omega) (by omega) e
/-- all cards of a stripe stand in old rows -/
theorem z_old {d t s q0 : Nat} {r : Option Value × Hp × Nat} {s4I old kk : Int32} (t6 : t < 6) (s4 : s < 4) : ∀ (f n : Nat) {h : Hp}, SH h.2 → n ≤ 8 → 9 - n ≤ f → Ev d 162 (137, [some (.ref 223), some (.int (Int32.ofNat t)), some (.int (Int32.ofNat (4 * q0 + s))), some (.int s4I), some (.int old), some (.int kk), some (.int (Int32.ofNat (4 * n + s)))], [], h, fl_tot) r → ∃ h', r = (none, h', fl_tot) ∧ (∀ x, n ≤ x → x < 8 → kN h' t s x = 0) ∧ (∀ K j : Nat, ¬ (K = 258 ∧ 32 * t + (4 * n + s) ≤ j ∧ j < 32 * t + 32 ∧ j % 4 = s) → h'.1 K j = h.1 K j) ∧ h'.2 = h.2
  | 0, n, h, S, hn, hf, e => by omega
  | f + 1, n, h, S, hn, hf, e => by
    have ix : ((Int32.ofInt 32) * Int32.ofNat t + Int32.ofNat (4 * n + s)).toNatClampNeg = 32 * t + (4 * n + s) := i32k (by omega) (by omega)
    have en := i32n (n := 4 * n + s) (by omega)
    have e4 : Int32.ofNat (4 * n + s) + Int32.ofInt 4 = Int32.ofNat (4 * (n + 1) + s) := (ad4 (by omega)).trans (by rw [show 4 * n + s + 4 = 4 * (n + 1) + s by omega])
    have V := zs_mv_m S e
    rw [ix, e4, en] at V
    rcases V with ⟨c1, w⟩ | ⟨c1, e⟩
    · exact ⟨h, w, fun x h1 h2 => by omega, fun _ _ _ => rfl, rfl⟩
    · obtain ⟨h', w, a, b, c⟩ := z_old t6 s4 f (n + 1) (show SH (fl_setI h 258 (32 * t + (4 * n + s)) (Int32.ofInt 0)).2 from S) (by omega) (by omega) e
      refine ⟨h', w, fun x h1 h2 => ?_, fun K j z => ?_, c⟩
      · by_cases y : x = n
        · subst y
          unfold kN
          rw [b _ _ (by omega), setI_at]
          exact i32_0
        · exact a x (by omega) h2
      · rw [b K j (by omega), setI_no (by omega)]
