
set_option maxRecDepth 20000
/-! AT THE START -/
theorem hpI_b {b b' : Nat → Nat → Int32} {r j : Nat} (h : b r j = b' r j) : ∀ l : List (Nat × Nat × Int32), hpI b l r j = hpI b' l r j
  | [] => h
  | e :: l => by
    show (if r = e.1 ∧ j = e.2.1 then e.2.2 else hpI b l r j) = if r = e.1 ∧ j = e.2.1 then e.2.2 else hpI b' l r j
    rw [hpI_b h l]
theorem hpI_far {b : Nat → Nat → Int32} {r j : Nat} (hr : 1000 ≤ r) : ∀ l : List (Nat × Nat × Int32), (l.all fun e => decide (e.1 < 1000)) = true → hpI b l r j = b r j
  | [], _ => rfl
  | e :: l, h => by
    rw [List.all_cons, Bool.and_eq_true, decide_eq_true_eq] at h
    show (if r = e.1 ∧ j = e.2.1 then e.2.2 else hpI b l r j) = _
    rw [if_neg (by omega)]
    exact hpI_far hr l h.2
def nz0 : Nat → Nat → Int32 := fun _ _ => 0
def ct_num (l : List (Nat × Nat × Int32)) : Bool := (l.all fun e => decide (e.1 < 1000)) && ((List.range 5).all fun c => decide (hpI nz0 l (148 + 12 * c) 0 = Int32.ofNat c) && ((List.range 8).all fun i => decide (hpI nz0 l (152 + 12 * c + i) 0 = Int32.ofNat c) && decide (hpI nz0 l (152 + 12 * c + i) 1 = Int32.ofNat i)))
def ct_ro (l : List (Nat × Nat × Int32)) : Bool := decide (hpI nz0 l 0 5 = 0) && decide (hpI nz0 l 218 7 = 0)
def ct_ck5 : Bool := match ct_a with
  | some (false, _, c) => (match ct_b c.2.2.2.1 c.2.2.2.2 with
    | some (false, _, c2) => ct_num c2.2.2.2.1.2 && ct_ro c2.2.2.2.1.2
    | _ => false)
  | _ => false
theorem ct_ok5 : ct_ck5 = true := by decide +kernel
theorem LI_start {L : Nat} {xs : Nat → Int32} {g h' : Hp} {w c w2 c2 : _} (a1 : ct_a = some (false, w, c)) (a4 : ct_b c.2.2.2.1 c.2.2.2.2 = some (false, w2, c2)) (a6 : cmT c2.2.2.2.1 = true) (g0 : ∀ r j, r < 1000 → g.1 r j = 0 ∧ g.2 r j = none) (far : ∀ r j, 1000 ≤ r → g.1 r j = fl_g L xs (r - 1000) j) (N : Nx (hpL g c2.2.2.2.1) h') (F : Fq [41] [] (hpL g c2.2.2.2.1) h') (B : ∀ j, 0 ≤ j → j < 600 → rd 41 j h' = -1) : LI h' := by
  have h5 := ct_ok5
  unfold ct_ck5 at h5
  rw [a1] at h5
  simp only at h5
  rw [a4] at h5
  simp only at h5
  rw [Bool.and_eq_true] at h5
  have h5 := h5.1
  unfold ct_num at h5
  rw [Bool.and_eq_true] at h5
  obtain ⟨k1, k2⟩ := h5
  obtain ⟨S1, S2⟩ := SU_start a1 a4 a6 g0 N F B
  have low : ∀ r i, r < 223 → h'.1 r i = hpI nz0 c2.2.2.2.1.2 r i := fun r i hr => by
    rw [N.2.2 r (by have := kdl hr; omega)]
    exact hpI_b (g0 r i (by omega)).1 _
  have sta : ∀ j p : Nat, j < 10 → h'.1 (1000 + j) p = fl_g L xs j p := fun j p hj => by
    rw [N.2.2 _ (by rw [kd_sta hj]; decide)]
    show hpI g.1 c2.2.2.2.1.2 (1000 + j) p = _
    rw [hpI_far (by omega) _ k1, far _ _ (by omega), Nat.add_sub_cancel_left]
  refine ⟨S1, S2, ⟨fun c hc => ?_, fun j p hj hp => ?_⟩, ?_⟩
  · have q := List.all_eq_true.mp k2 c (List.mem_range.mpr hc)
    rw [Bool.and_eq_true, decide_eq_true_eq] at q
    refine ⟨by rw [low _ _ (by omega)]; exact q.1, fun i hi => ?_⟩
    have q2 := List.all_eq_true.mp q.2 i (List.mem_range.mpr hi)
    rw [Bool.and_eq_true, decide_eq_true_eq, decide_eq_true_eq] at q2
    exact ⟨by rw [low _ _ (by omega)]; exact q2.1, by rw [low _ _ (by omega)]; exact q2.2, TI.r7 N.1 hc hi⟩
  · rw [sta j p hj]
    unfold fl_g stC
    rw [if_neg (by omega), if_neg (by omega), List.getD_eq_getElem?_getD]
  · intro c hc
    exfalso
    have z : h'.1 223 4 = 0 := by
      rw [F.fc 4 (by decide), hp_far a6 (by decide +kernel)]
      exact (g0 223 4 (by decide)).1
    unfold qc at hc
    rw [z] at hc
    exact absurd hc (by rw [show (0 : Int32).toNatClampNeg = 0 from rfl]; omega)
