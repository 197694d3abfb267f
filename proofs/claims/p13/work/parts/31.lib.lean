/-! READS AND WRITES -/
theorem xc_inj {K K' : Nat} (h : 31 ≤ K ∧ K < 93) (h' : 31 ≤ K' ∧ K' < 93) (hn : K ≠ K') : xc K ≠ xc K' := fun z => by
  have := congrArg ab_kd z
  rw [xc_kd' h.1 h.2, xc_kd' h'.1 h'.2] at this
  exact hn this
def kne (K K' : Nat) : Bool := decide (31 ≤ K) && decide (K < 93) && decide (31 ≤ K') && decide (K' < 93) && decide (K ≠ K')
theorem rd_k {K K' : Nat} (hk : kne K K' = true) (i j v : Int) (h : Hp) : rd K i (wr K' j v h) = rd K i h := by
  unfold kne at hk
  simp only [Bool.and_eq_true, decide_eq_true_eq] at hk
  have := xc_inj (K := K) (K' := K') ⟨hk.1.1.1.1, hk.1.1.1.2⟩ ⟨hk.1.1.2, hk.1.2⟩ hk.2
  unfold rd wr fl_setI
  simp only
  rw [if_neg (fun z => this z.1)]
theorem rd_eq {K : Nat} {i v : Int} {h : Hp} (h1 : -2147483648 ≤ v) (h2 : v ≤ 2147483647) : rd K i (wr K i v h) = v := by
  unfold rd wr fl_setI
  simp only
  rw [if_pos (by simp), ofInt_toInt h1 h2]
theorem rd_ne {K : Nat} {i j v : Int} {h : Hp} (h1 : 0 ≤ i) (h2 : 0 ≤ j) (hn : i ≠ j) : rd K i (wr K j v h) = rd K i h := by
  unfold rd wr fl_setI
  simp only
  rw [if_neg (fun z => hn (by omega))]
theorem rd_wr {K : Nat} {i j v : Int} {h : Hp} (h1 : 0 ≤ i) (h2 : 0 ≤ j) (h3 : -2147483648 ≤ v) (h4 : v ≤ 2147483647) : rd K i (wr K j v h) = if i = j then v else rd K i h := by
  split
  · rename_i e
    rw [e, rd_eq h3 h4]
  · rename_i e
    rw [rd_ne h1 h2 e]
theorem rd_int (K : Nat) (i : Int) (h : Hp) : -2147483648 ≤ rd K i h ∧ rd K i h ≤ 2147483647 := i_rng _
/-- the bounds of what is read -/
def rdt (K : Nat) (i : Nat) : Int × Int := match ab_K[K]? with
  | some (code, size, tys) => if 31 ≤ K ∧ K < 93 ∧ i < size then (match (if code < 20 then tys[i]? else tys[0]?) with
    | some t => if t.1 = 1 then (t.2.1, t.2.2) else ab_full
    | none => ab_full) else ab_full
  | none => ab_full
theorem rdt_ok {h : Hp} (hT : TInv h) (K : Nat) (i : Nat) : (rdt K i).1 ≤ rd K i h ∧ rd K i h ≤ (rdt K i).2 := by
  have full : ab_full.1 ≤ rd K i h ∧ rd K i h ≤ ab_full.2 := rd_int K i h
  unfold rdt
  split
  · rename_i code size tys hK
    split
    · rename_i hc
      split
      · rename_i t ht
        split
        · rename_i h1
          have hkd := xc_kd' hc.1 hc.2.1
          have := hT (xc K) code size tys i t (by rw [hkd]; omega) (by rw [hkd]; exact hK) hc.2.2 ht
          unfold slotOK at this
          rw [h1] at this
          exact this
        · exact full
      · exact full
    · exact full
  · exact full
/-- all slots of an array alike -/
def rdc (K size : Nat) (lo hi : Int) : Bool := rdt K 0 == (lo, hi) && decide (31 ≤ K) && decide (K < 93) && (match ab_K[K]? with
  | some (code, s, [_]) => decide (size ≤ s) && decide (0 < size) && decide (20 ≤ code)
  | _ => false)
theorem rda_ok {h : Hp} (hT : TInv h) (K size : Nat) (lo hi : Int) (hc : rdc K size lo hi = true) {i : Int} (h1 : 0 ≤ i) (h2 : i < size) : lo ≤ rd K i h ∧ rd K i h ≤ hi := by
  unfold rdc at hc
  simp only [Bool.and_eq_true, decide_eq_true_eq, beq_iff_eq] at hc
  obtain ⟨⟨⟨c1, c2⟩, c3⟩, c4⟩ := hc
  have e : rdt K i.toNat = rdt K 0 := by
    unfold rdt
    split at c4
    · rename_i code s t hK
      simp only [Bool.and_eq_true, decide_eq_true_eq] at c4
      rw [hK]
      simp only
      have hA : 31 ≤ K ∧ K < 93 ∧ i.toNat < s := ⟨c2, c3, by omega⟩
      have hB : 31 ≤ K ∧ K < 93 ∧ 0 < s := ⟨c2, c3, by omega⟩
      have hC : ¬ code < 20 := by omega
      simp only [if_pos hA, if_pos hB, if_neg hC]
    · cases c4
  have := rdt_ok hT K i.toNat
  rw [e, c1, show ((i.toNat : Nat) : Int) = i by omega] at this
  exact this
theorem Ev.up {d m : Nat} {c : Cfg} {r : Option Value × Hp × Nat} {D : Nat} (h : Ev D m c r) (hd : D ≤ d) : Ev d m c r := h.mono hd
