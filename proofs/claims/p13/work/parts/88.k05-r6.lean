
set_option maxRecDepth 20000
/-! WAKING ON BOTH SIDES -/
theorem wkH_k {h : Hp} {tr : Int32} {r k : Nat} (h9 : k ≠ 9) (h10 : k ≠ 10) : ∀ n, (wkH h tr n).1 r k = h.1 r k
  | 0 => rfl
  | n + 1 => by
    unfold wkH
    split
    · rw [setI_no (by omega), setI_no (by omega)]
      exact wkH_k h9 h10 n
    · exact wkH_k h9 h10 n
theorem zwH_T {h : Hp} {t : Int32} (hT : TInv h) : ∀ n, TInv (zwH h t n)
  | 0 => hT
  | n + 1 => by
    unfold zwH
    split
    · exact (zwH_T hT n).a 245 _ 0 1 (by decide +kernel) (by decide +kernel) (by decide)
    · exact zwH_T hT n
/-- a clerk that is not woken keeps all -/
theorem wk_FC {h hm : Hp} {t : Int32} {n o : Nat} (hn : n ≤ 5) (ho : o < n) (a : ¬ ((h.1 (148 + 12 * o) 4).toInt < (h.1 (148 + 12 * o) 3).toInt ∧ (h.1 (148 + 12 * o) 4).toInt < 8 ∧ 0 ≤ (h.1 (148 + 12 * o) 4).toInt ∧ (h.1 (152 + 12 * o + (h.1 (148 + 12 * o) 4).toNatClampNeg) 10).toInt ≠ 0 ∧ (h.1 (152 + 12 * o + (h.1 (148 + 12 * o) 4).toNatClampNeg) 2).toInt = t.toInt)) (b : (zwH hm t n).1 245 o = hm.1 245 o) : KFC o h (wkH h t n) hm (zwH hm t n) := by
  refine ⟨fun r j h1 h2 => ⟨?_, congrFun (congrFun (wkH_2 n) _) _⟩, fun K h1 h2 => ?_, fun K j hK _ _ => zwH_out (by omega) n, fun K j h1 h2 _ _ => zwH_out (by omega) n, fun j hj => ?_⟩
  · by_cases z : r < 152 + 12 * o
    · exact wkH_out n fun c2 hc2 => by omega
    · obtain ⟨j', rfl⟩ : ∃ j', r = 152 + 12 * o + j' := ⟨r - (152 + 12 * o), by omega⟩
      exact wkH_not (by omega) (Or.inl a) n
  · by_cases z : K = 245
    · rw [z]; exact b
    · exact zwH_out z n
  · rw [zwH_out (by decide) n]
    exact hj
theorem wk_o {g h hm : Hp} {T n o : Nat} (G : GS g) (X : SX g h) (M : SM g hm) (en : n = qc g) (hT6 : T < 6) (ho : o < qc g) (C : CLK g h hm o) : CLK g (wkH h (Int32.ofNat T) n) (zwH hm (Int32.ofNat T) n) o := by
  obtain ⟨io, CK, CU'⟩ := C
  have o5 := G.c5 ho
  have n5 := G.1.2.2.1
  have m8 := G.m8 ho
  have em : (h.1 (148 + 12 * o) 3).toInt = qm g o := by rw [(X.2.2.2.2.1 o ho).1]; exact (G.2.2 o ho).1
  obtain ⟨⟨k1, k2, k3⟩, k4, k5, k6, -⟩ := id CK
  have i8 : io ≤ 8 := by omega
  have eI : (h.1 (148 + 12 * o) 4).toInt = io := by rw [k1, i32n (by omega)]
  have eN : (h.1 (148 + 12 * o) 4).toNatClampNeg = io := by rw [k1, o32c (by omega)]
  have eT : (Int32.ofNat T).toInt = T := i32n (by omega)
  have zat := zwH_at (h := hm) (t := Int32.ofNat T) (j := o) n (by omega) (by omega)
  rw [k2, i8n (by omega) (by omega), eT] at zat
  by_cases hio : io < qm g o
  · have j8 := G.i8 ho hio
    have e28 : hm.1 228 (8 * o + io) = Int32.ofNat (qT g o io) := by rw [M.2.2.2 _ _ (by decide) (by decide)]; exact G.e28 ho hio
    have t6 := G.T6 ho hio
    have e2 : h.1 (152 + 12 * o + io) 2 = Int32.ofNat (qT g o io) := by rw [((X.2.2.2.2.1 o ho).2 io hio).1]; exact G.e28 ho hio
    rw [e28, i32n (by omega)] at zat
    have idle : (h.1 (152 + 12 * o + io) 10 = Int32.ofInt 0 ∧ hm.1 245 o = Int32.ofInt 0) → CLK g (wkH h (Int32.ofNat T) n) (zwH hm (Int32.ofNat T) n) o := fun ⟨q1, q2⟩ => by
      have F := wk_FC (h := h) (hm := hm) (t := Int32.ofNat T) (n := n) (o := o) (by omega) (by omega) (by
        rw [eN, q1]
        rintro ⟨-, -, -, z, -⟩
        exact z (by decide)) (by
        rw [zat, if_neg]
        rintro ⟨z, -⟩
        rw [q2] at z
        exact z (by decide))
      exact CLK.fr F (KMX.of_out fun K j hK => zwH_out hK n) m8 ⟨io, CK, CU'⟩
    rcases CU' hio with W | ⟨p, -, W⟩ | W
    · obtain ⟨⟨w1, w2⟩, w3, w4, w5, w6, w7, -⟩ := W
      by_cases hTT : qT g o io = T
      · have A := wkH_at (h := h) (tr := Int32.ofNat T) (n := o) (N := n) (by omega) (by
          rw [eN, eI, em, w1, e2, eT, i32n (by omega), i32_1]
          exact ⟨by omega, by omega, by omega, by omega, by omega⟩)
        rw [eN] at A
        obtain ⟨A10, A9, Ak⟩ := A
        rw [w2, i32_1, if_pos ⟨by omega, by omega⟩] at zat
        refine ⟨io, CK.fk ⟨fun k => wkH_out n fun c2 hc2 => by omega, fun j k hj hk => ?_, fun j _ _ => congrFun (congrFun (wkH_2 n) _) _, zwH_out (by decide) n, fun K j h1 h2 _ _ => zwH_out (by omega) n, fun z => by omega⟩ (KMX.of_out fun K j hK => zwH_out hK n) m8 (fun _ => (k4 io hio).2.of (wkH_k (by decide) (by decide) n) (zwH_out (by decide) n)), fun _ => Or.inr (Or.inl ⟨0, by have := (G.len ho hio).1; omega, ⟨A10, zat⟩, A9, ?_, (congrFun (congrFun (wkH_2 n) _) _).trans w5, (zwH_out (by decide) n).trans w6, ?_, fun z m h4 hh => by cases hh⟩)⟩
        · by_cases z : j = io
          · exact wkH_k (by omega) (by omega) n
          · exact wkH_not hj (Or.inr (by rw [eI]; omega)) n
        · rw [zwH_out (by decide) n, w4]; rfl
        · have rd2 : rdP (qK g o io) (qO g o io) = 2 := by
            unfold rdP
            rw [if_neg (by omega), if_neg (by omega)]
          exact ⟨fun z y => by omega, fun z y => by omega, fun z y => by omega, fun z y => by omega, fun z y => by omega, fun z y => by omega⟩
      · have F := wk_FC (h := h) (hm := hm) (t := Int32.ofNat T) (n := n) (o := o) (by omega) (by omega) (by
          rw [eN, e2, i32n (by omega), eT]
          rintro ⟨-, -, -, -, z⟩
          omega) (by
          rw [zat, if_neg]
          rintro ⟨-, z⟩
          omega)
        exact CLK.fr F (KMX.of_out fun K j hK => zwH_out hK n) m8 ⟨io, CK, CU'⟩
    · exact idle W.1
    · exact idle W.1
  · have F := wk_FC (h := h) (hm := hm) (t := Int32.ofNat T) (n := n) (o := o) (by omega) (by omega) (by
      rw [eI, em]
      rintro ⟨z, -⟩
      omega) (by
      rw [zat, if_neg]
      rintro ⟨z, -⟩
      rw [k6 (by omega)] at z
      exact z (by decide))
    exact CLK.fr F (KMX.of_out fun K j hK => zwH_out hK n) m8 ⟨io, CK, CU'⟩
theorem RRM.wake {g h hm : Hp} {st c i pc p n : Nat} {q b : Int} (G : GS g) (en : n = qc g) (R : RRM g h hm st c i b (CUn g h hm c i pc q p)) : RRM g (wkH h (Int32.ofNat (qT g c i)) n) (zwH hm (Int32.ofNat (qT g c i)) n) st c i b (CUn g (wkH h (Int32.ofNat (qT g c i)) n) (zwH hm (Int32.ofNat (qT g c i)) n) c i pc q p) := by
  obtain ⟨⟨X, M, S15, K, hT⟩, RT, RO, hc, hi, CK, b1, b2, U⟩ := id R
  have c5 := G.c5 hc
  have i8 := G.i8 hc hi
  have T6 := G.T6 hc hi
  have n5 := G.1.2.2.1
  have t6 := G.1.1
  have eN : (h.1 (148 + 12 * c) 4).toNatClampNeg = i := by rw [CK.1.1, o32c (by omega)]
  have F : KFC c h (wkH h (Int32.ofNat (qT g c i)) n) hm (zwH hm (Int32.ofNat (qT g c i)) n) := wk_FC (by omega) (by omega) (by
    rw [eN, U.1.1]
    rintro ⟨-, -, -, z, -⟩
    exact z (by decide)) (by
    rw [zwH_at n (by omega) (by omega), if_neg]
    rintro ⟨z, -⟩
    rw [U.1.2] at z
    exact z (by decide))
  refine ⟨⟨⟨?_, ⟨?_, ?_⟩, fun u hu => ?_, fun o ho => ⟨?_, fun j hj => ⟨?_, ?_, ?_⟩⟩, fun o ho => ⟨?_, fun j hj => ?_⟩, fun j p h1 h2 => ?_⟩, ⟨?_, ?_, ?_, fun K j h1 h2 => ?_⟩, ?_, ?_, zwH_T hT n⟩, fun u hu => ⟨?_, ?_⟩, fun o ho hne => wk_o G X M en T6 ho (RO o ho hne), hc, hi, CK.fr F (KMX.of_out fun K j hK => zwH_out hK n) (G.m8 hc), ?_, ?_, U.fr i8 F⟩
  · rw [wkH_2]; exact X.1
  · rw [wkH_k (by decide) (by decide)]; exact X.2.1.1
  · rw [wkH_k (by decide) (by decide)]; exact X.2.1.2
  · rw [wkH_k (by decide) (by decide), wkH_k (by decide) (by decide), wkH_k (by decide) (by decide)]; exact X.2.2.1 u hu
  · rw [wkH_k (by decide) (by decide)]; exact (X.2.2.2.1 o ho).1
  · rw [wkH_k (by decide) (by decide)]; exact ((X.2.2.2.1 o ho).2 j hj).1
  · rw [wkH_k (by decide) (by decide)]; exact ((X.2.2.2.1 o ho).2 j hj).2.1
  · rw [wkH_2]; exact ((X.2.2.2.1 o ho).2 j hj).2.2
  · rw [wkH_k (by decide) (by decide)]; exact (X.2.2.2.2.1 o ho).1
  · rw [wkH_k (by decide) (by decide), wkH_k (by decide) (by decide), wkH_k (by decide) (by decide), wkH_k (by decide) (by decide), wkH_k (by decide) (by decide)]; exact (X.2.2.2.2.1 o ho).2 j hj
  · rw [wkH_out n fun c2 hc2 => by omega]; exact X.2.2.2.2.2 j p h1 h2
  · rw [zwH_2]; exact M.1
  · rw [zwH_out (by decide) n]; exact M.2.1
  · rw [zwH_out (by decide) n]; exact M.2.2.1
  · rw [zwH_out (by omega) n]; exact M.2.2.2 K j h1 h2
  · rw [zwH_out (by decide) n]; exact S15
  · exact K.fr (wkH_k (by decide) (by decide) n) (fun j => wkH_out n fun c2 hc2 => by omega) (zwH_out (by decide) n) (fun K j h1 h2 => zwH_out (by omega) n)
  · exact (RT u hu).1.fr (TI.rng hT 69 6 0 40 (by decide +kernel) (by decide) (by decide) (i := u) (by omega)).2 (Int.le_refl _) ⟨fun j => ⟨wkH_out n fun c2 hc2 => by omega, wkH_out n fun c2 hc2 => by omega, wkH_out n fun c2 hc2 => by omega, wkH_out n fun c2 hc2 => by omega⟩, fun K j hK _ _ => zwH_out (by omega) n, fun j _ _ => zwH_out (by decide) n, fun K hK => zwH_out (by omega) n, fun j _ _ => zwH_out (by decide) n⟩
  · exact (RT u hu).2.fr (fun j => wkH_out n fun c2 hc2 => by omega) (fun j _ _ => zwH_out (by decide) n)
  · rw [zwH_out (by decide) n, zwH_out (by decide) n]; exact b1
  · rw [zwH_out (by decide) n]; exact b2
