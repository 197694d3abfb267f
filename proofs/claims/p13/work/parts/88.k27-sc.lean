
set_option maxRecDepth 20000
/-! THE REFERENCE BEGINS ANEW -/
theorem z_bgl_a {d : Nat} {r : Option Value × Hp × Nat} : ∀ (f : Nat) {h : Hp} {k : Nat}, SH h.2 → k ≤ 40 → 40 - k < f → Ev d 154 (17, [some (.ref 223), some (.int (Int32.ofNat k))], [], h, fl_tot) r → ∃ h', h'.2 = h.2 ∧ (∀ K j : Nat, ¬ ((K = 238 ∨ K = 239 ∨ K = 240 ∨ K = 241 ∨ K = 242) ∧ k ≤ j ∧ j < 40) → h'.1 K j = h.1 K j) ∧ (∀ j : Nat, k ≤ j → j < 40 → h'.1 238 j = Int32.ofInt 0 ∧ h'.1 239 j = Int32.ofInt 6 ∧ h'.1 240 j = Int32.ofInt 0 ∧ h'.1 241 j = Int32.ofInt (-1) ∧ h'.1 242 j = Int32.ofInt (-1)) ∧ Ev d 154 (65, [some (.ref 223), some (.int (Int32.ofNat 40))], [], h', fl_tot) r
  | 0, h, k, S, hk, hf, e => by omega
  | f + 1, h, k, S, hk, hf, e => by
    have ek := i32n (n := k) (by omega)
    have ekn : (Int32.ofNat k).toNatClampNeg = k := o32c (by omega)
    have V := z_bg_a S e
    rw [ekn] at V
    rcases V with ⟨q, e⟩ | ⟨q, e⟩
    · have y : k = 40 := by omega
      subst y
      exact ⟨h, rfl, fun _ _ _ => rfl, fun j h1 h2 => by omega, e⟩
    · obtain ⟨h1, eh⟩ : ∃ z, z = fl_setI (fl_setI (fl_setI (fl_setI (fl_setI (h) 238 k (Int32.ofInt 0)) 239 k (Int32.ofInt 6)) 240 k (Int32.ofInt 0)) 241 k (Int32.ofInt (-1))) 242 k (Int32.ofInt (-1)) := ⟨_, rfl⟩
      rw [← eh] at e
      have S1 : SH h1.2 := by rw [eh]; exact S
      have e := z_bg_ai S1 e
      rw [o32 (by omega)] at e
      obtain ⟨h', a, b, c, e⟩ := z_bgl_a f (k := k + 1) S1 (by omega) (by omega) e
      refine ⟨h', a.trans (by rw [eh]; rfl), fun K j z => (b K j (by omega)).trans (by rw [eh]; simp (disch := omega) only [setI_no]), fun j j1 j2 => ?_, e⟩
      by_cases y : j = k
      · subst y
        exact ⟨(b 238 j (by omega)).trans (by rw [eh]; simp (disch := omega) only [setI_at, setI_no]), (b 239 j (by omega)).trans (by rw [eh]; simp (disch := omega) only [setI_at, setI_no]), (b 240 j (by omega)).trans (by rw [eh]; simp (disch := omega) only [setI_at, setI_no]), (b 241 j (by omega)).trans (by rw [eh]; simp (disch := omega) only [setI_at, setI_no]), (b 242 j (by omega)).trans (by rw [eh]; simp (disch := omega) only [setI_at, setI_no])⟩
      · obtain ⟨c0, c1, c2, c3, c4⟩ := c j (by omega) j2
        exact ⟨c0, c1, c2, c3, c4⟩
theorem z_bgl_b {d : Nat} {r : Option Value × Hp × Nat} : ∀ (f : Nat) {h : Hp} {k : Nat}, SH h.2 → k ≤ 5 → 5 - k < f → Ev d 154 (67, [some (.ref 223), some (.int (Int32.ofNat k))], [], h, fl_tot) r → ∃ h', h'.2 = h.2 ∧ (∀ K j : Nat, ¬ ((K = 243 ∨ K = 244 ∨ K = 245 ∨ K = 251) ∧ k ≤ j ∧ j < 5) → h'.1 K j = h.1 K j) ∧ (∀ j : Nat, k ≤ j → j < 5 → h'.1 243 j = Int32.ofInt 0 ∧ h'.1 244 j = Int32.ofInt 0 ∧ h'.1 245 j = Int32.ofInt 0 ∧ h'.1 251 j = Int32.ofInt 0) ∧ Ev d 154 (106, [some (.ref 223), some (.int (Int32.ofNat 5))], [], h', fl_tot) r
  | 0, h, k, S, hk, hf, e => by omega
  | f + 1, h, k, S, hk, hf, e => by
    have ek := i32n (n := k) (by omega)
    have ekn : (Int32.ofNat k).toNatClampNeg = k := o32c (by omega)
    have V := z_bg_b S e
    rw [ekn] at V
    rcases V with ⟨q, e⟩ | ⟨q, e⟩
    · have y : k = 5 := by omega
      subst y
      exact ⟨h, rfl, fun _ _ _ => rfl, fun j h1 h2 => by omega, e⟩
    · obtain ⟨h1, eh⟩ : ∃ z, z = fl_setI (fl_setI (fl_setI (fl_setI (h) 243 k (Int32.ofInt 0)) 244 k (Int32.ofInt 0)) 245 k (Int32.ofInt 0)) 251 k (Int32.ofInt 0) := ⟨_, rfl⟩
      rw [← eh] at e
      have S1 : SH h1.2 := by rw [eh]; exact S
      have e := z_bg_bi S1 e
      rw [o32 (by omega)] at e
      obtain ⟨h', a, b, c, e⟩ := z_bgl_b f (k := k + 1) S1 (by omega) (by omega) e
      refine ⟨h', a.trans (by rw [eh]; rfl), fun K j z => (b K j (by omega)).trans (by rw [eh]; simp (disch := omega) only [setI_no]), fun j j1 j2 => ?_, e⟩
      by_cases y : j = k
      · subst y
        exact ⟨(b 243 j (by omega)).trans (by rw [eh]; simp (disch := omega) only [setI_at, setI_no]), (b 244 j (by omega)).trans (by rw [eh]; simp (disch := omega) only [setI_at, setI_no]), (b 245 j (by omega)).trans (by rw [eh]; simp (disch := omega) only [setI_at, setI_no]), (b 251 j (by omega)).trans (by rw [eh]; simp (disch := omega) only [setI_at, setI_no])⟩
      · obtain ⟨c0, c1, c2, c3⟩ := c j (by omega) j2
        exact ⟨c0, c1, c2, c3⟩
theorem z_bgl_c {d : Nat} {r : Option Value × Hp × Nat} : ∀ (f : Nat) {h : Hp} {k : Nat}, SH h.2 → k ≤ 24 → 24 - k < f → Ev d 154 (108, [some (.ref 223), some (.int (Int32.ofNat k))], [], h, fl_tot) r → ∃ h', h'.2 = h.2 ∧ (∀ K j : Nat, ¬ ((K = 254 ∨ K = 263 ∨ K = 266 ∨ K = 267) ∧ k ≤ j ∧ j < 24) → h'.1 K j = h.1 K j) ∧ (∀ j : Nat, k ≤ j → j < 24 → h'.1 254 j = Int32.ofInt (-1) ∧ h'.1 263 j = Int32.ofInt 0 ∧ h'.1 266 j = Int32.ofInt 1 ∧ h'.1 267 j = Int32.ofInt 0) ∧ Ev d 154 (148, [some (.ref 223), some (.int (Int32.ofNat 24))], [], h', fl_tot) r
  | 0, h, k, S, hk, hf, e => by omega
  | f + 1, h, k, S, hk, hf, e => by
    have ek := i32n (n := k) (by omega)
    have ekn : (Int32.ofNat k).toNatClampNeg = k := o32c (by omega)
    have V := z_bg_c S e
    rw [ekn] at V
    rcases V with ⟨q, e⟩ | ⟨q, e⟩
    · have y : k = 24 := by omega
      subst y
      exact ⟨h, rfl, fun _ _ _ => rfl, fun j h1 h2 => by omega, e⟩
    · obtain ⟨h1, eh⟩ : ∃ z, z = fl_setI (fl_setI (fl_setI (fl_setI (h) 254 k (Int32.ofInt (-1))) 263 k (Int32.ofInt 0)) 266 k (Int32.ofInt 1)) 267 k (Int32.ofInt 0) := ⟨_, rfl⟩
      rw [← eh] at e
      have S1 : SH h1.2 := by rw [eh]; exact S
      have e := z_bg_ci S1 e
      rw [o32 (by omega)] at e
      obtain ⟨h', a, b, c, e⟩ := z_bgl_c f (k := k + 1) S1 (by omega) (by omega) e
      refine ⟨h', a.trans (by rw [eh]; rfl), fun K j z => (b K j (by omega)).trans (by rw [eh]; simp (disch := omega) only [setI_no]), fun j j1 j2 => ?_, e⟩
      by_cases y : j = k
      · subst y
        exact ⟨(b 254 j (by omega)).trans (by rw [eh]; simp (disch := omega) only [setI_at, setI_no]), (b 263 j (by omega)).trans (by rw [eh]; simp (disch := omega) only [setI_at, setI_no]), (b 266 j (by omega)).trans (by rw [eh]; simp (disch := omega) only [setI_at, setI_no]), (b 267 j (by omega)).trans (by rw [eh]; simp (disch := omega) only [setI_at, setI_no])⟩
      · obtain ⟨c0, c1, c2, c3⟩ := c j (by omega) j2
        exact ⟨c0, c1, c2, c3⟩
theorem z_bgl_d {d : Nat} {r : Option Value × Hp × Nat} : ∀ (f : Nat) {h : Hp} {k : Nat}, SH h.2 → k ≤ 192 → 192 - k < f → Ev d 154 (150, [some (.ref 223), some (.int (Int32.ofNat k))], [], h, fl_tot) r → ∃ h', h'.2 = h.2 ∧ (∀ K j : Nat, ¬ ((K = 255 ∨ K = 258 ∨ K = 264 ∨ K = 265) ∧ k ≤ j ∧ j < 192) → h'.1 K j = h.1 K j) ∧ (∀ j : Nat, k ≤ j → j < 192 → h'.1 255 j = Int32.ofInt 0 ∧ h'.1 258 j = Int32.ofInt 0 ∧ h'.1 264 j = Int32.ofInt 0 ∧ h'.1 265 j = h.1 234 j) ∧ Ev d 154 (196, [some (.ref 223), some (.int (Int32.ofNat 192))], [], h', fl_tot) r
  | 0, h, k, S, hk, hf, e => by omega
  | f + 1, h, k, S, hk, hf, e => by
    have ek := i32n (n := k) (by omega)
    have ekn : (Int32.ofNat k).toNatClampNeg = k := o32c (by omega)
    have V := z_bg_d S e
    rw [ekn] at V
    rcases V with ⟨q, e⟩ | ⟨q, e⟩
    · have y : k = 192 := by omega
      subst y
      exact ⟨h, rfl, fun _ _ _ => rfl, fun j h1 h2 => by omega, e⟩
    · obtain ⟨h1, eh⟩ : ∃ z, z = fl_setI (fl_setI (fl_setI (fl_setI (h) 255 k (Int32.ofInt 0)) 258 k (Int32.ofInt 0)) 264 k (Int32.ofInt 0)) 265 k (h.1 234 k) := ⟨_, rfl⟩
      rw [← eh] at e
      have S1 : SH h1.2 := by rw [eh]; exact S
      have e := z_bg_di S1 e
      rw [o32 (by omega)] at e
      obtain ⟨h', a, b, c, e⟩ := z_bgl_d f (k := k + 1) S1 (by omega) (by omega) e
      refine ⟨h', a.trans (by rw [eh]; rfl), fun K j z => (b K j (by omega)).trans (by rw [eh]; simp (disch := omega) only [setI_no]), fun j j1 j2 => ?_, e⟩
      by_cases y : j = k
      · subst y
        exact ⟨(b 255 j (by omega)).trans (by rw [eh]; simp (disch := omega) only [setI_at, setI_no]), (b 258 j (by omega)).trans (by rw [eh]; simp (disch := omega) only [setI_at, setI_no]), (b 264 j (by omega)).trans (by rw [eh]; simp (disch := omega) only [setI_at, setI_no]), (b 265 j (by omega)).trans (by rw [eh]; simp (disch := omega) only [setI_at, setI_no])⟩
      · obtain ⟨c0, c1, c2, c3⟩ := c j (by omega) j2
        exact ⟨c0, c1, c2, c3.trans (by rw [eh]; simp (disch := omega) only [setI_no])⟩
theorem z_bgl_e {d : Nat} {r : Option Value × Hp × Nat} : ∀ (f : Nat) {h : Hp} {k : Nat}, SH h.2 → k ≤ 6 → 6 - k < f → Ev d 154 (198, [some (.ref 223), some (.int (Int32.ofNat k))], [], h, fl_tot) r → ∃ h', h'.2 = h.2 ∧ (∀ K j : Nat, ¬ ((K = 261 ∨ K = 262 ∨ K = 269 ∨ K = 270 ∨ K = 271 ∨ K = 272) ∧ k ≤ j ∧ j < 6) → h'.1 K j = h.1 K j) ∧ (∀ j : Nat, k ≤ j → j < 6 → h'.1 261 j = Int32.ofInt 0 ∧ h'.1 262 j = Int32.ofInt 0 ∧ h'.1 269 j = Int32.ofInt 0 ∧ h'.1 270 j = Int32.ofInt 0 ∧ h'.1 271 j = Int32.ofInt 0 ∧ h'.1 272 j = Int32.ofInt 0) ∧ Ev d 154 (252, [some (.ref 223), some (.int (Int32.ofNat 6))], [], h', fl_tot) r
  | 0, h, k, S, hk, hf, e => by omega
  | f + 1, h, k, S, hk, hf, e => by
    have ek := i32n (n := k) (by omega)
    have ekn : (Int32.ofNat k).toNatClampNeg = k := o32c (by omega)
    have V := z_bg_e S e
    rw [ekn] at V
    rcases V with ⟨q, e⟩ | ⟨q, e⟩
    · have y : k = 6 := by omega
      subst y
      exact ⟨h, rfl, fun _ _ _ => rfl, fun j h1 h2 => by omega, e⟩
    · obtain ⟨h1, eh⟩ : ∃ z, z = fl_setI (fl_setI (fl_setI (fl_setI (fl_setI (fl_setI (h) 261 k (Int32.ofInt 0)) 262 k (Int32.ofInt 0)) 269 k (Int32.ofInt 0)) 270 k (Int32.ofInt 0)) 271 k (Int32.ofInt 0)) 272 k (Int32.ofInt 0) := ⟨_, rfl⟩
      rw [← eh] at e
      have S1 : SH h1.2 := by rw [eh]; exact S
      have e := z_bg_ei S1 e
      rw [o32 (by omega)] at e
      obtain ⟨h', a, b, c, e⟩ := z_bgl_e f (k := k + 1) S1 (by omega) (by omega) e
      refine ⟨h', a.trans (by rw [eh]; rfl), fun K j z => (b K j (by omega)).trans (by rw [eh]; simp (disch := omega) only [setI_no]), fun j j1 j2 => ?_, e⟩
      by_cases y : j = k
      · subst y
        exact ⟨(b 261 j (by omega)).trans (by rw [eh]; simp (disch := omega) only [setI_at, setI_no]), (b 262 j (by omega)).trans (by rw [eh]; simp (disch := omega) only [setI_at, setI_no]), (b 269 j (by omega)).trans (by rw [eh]; simp (disch := omega) only [setI_at, setI_no]), (b 270 j (by omega)).trans (by rw [eh]; simp (disch := omega) only [setI_at, setI_no]), (b 271 j (by omega)).trans (by rw [eh]; simp (disch := omega) only [setI_at, setI_no]), (b 272 j (by omega)).trans (by rw [eh]; simp (disch := omega) only [setI_at, setI_no])⟩
      · obtain ⟨c0, c1, c2, c3, c4, c5⟩ := c j (by omega) j2
        exact ⟨c0, c1, c2, c3, c4, c5⟩
/-- begins: what it comes to -/
def BGN (hm h' : Hp) : Prop := h'.2 = hm.2 ∧ (h'.1 223 15 = Int32.ofInt 0 ∧ h'.1 223 16 = Int32.ofInt 0 ∧ h'.1 223 42 = Int32.ofInt 0) ∧ (∀ j : Nat, j ≠ 15 → j ≠ 16 → j ≠ 42 → h'.1 223 j = hm.1 223 j) ∧ (∀ K j : Nat, K ≠ 223 → K < 238 → h'.1 K j = hm.1 K j) ∧
  (∀ j : Nat, j < 40 → h'.1 238 j = Int32.ofInt 0 ∧ h'.1 239 j = Int32.ofInt 6 ∧ h'.1 240 j = Int32.ofInt 0 ∧ h'.1 241 j = Int32.ofInt (-1) ∧ h'.1 242 j = Int32.ofInt (-1)) ∧
  (∀ j : Nat, j < 5 → h'.1 243 j = Int32.ofInt 0 ∧ h'.1 244 j = Int32.ofInt 0 ∧ h'.1 245 j = Int32.ofInt 0 ∧ h'.1 251 j = Int32.ofInt 0) ∧
  (∀ j : Nat, j < 24 → h'.1 254 j = Int32.ofInt (-1) ∧ h'.1 263 j = Int32.ofInt 0) ∧
  (∀ j : Nat, j < 192 → h'.1 255 j = Int32.ofInt 0 ∧ h'.1 264 j = Int32.ofInt 0 ∧ h'.1 265 j = hm.1 234 j) ∧
  ∀ j : Nat, j < 6 → h'.1 261 j = Int32.ofInt 0 ∧ h'.1 262 j = Int32.ofInt 0 ∧ h'.1 271 j = Int32.ofInt 0 ∧ h'.1 272 j = Int32.ofInt 0
theorem z_begins {d : Nat} {hm : Hp} {r : Option Value × Hp × Nat} (S : SH hm.2) (e : Ev d 154 (0, [some (.ref 223), none], [], hm, fl_tot) r) : ∃ h', r = (none, h', fl_tot) ∧ BGN hm h' := by
  have e := z_bg_0 S e
  obtain ⟨g0, eg⟩ : ∃ z, z = fl_setI (fl_setI (fl_setI hm 223 15 (Int32.ofInt 0)) 223 16 (Int32.ofInt 0)) 223 42 (Int32.ofInt 0) := ⟨_, rfl⟩
  rw [← eg] at e
  have S0 : SH g0.2 := by rw [eg]; exact S
  obtain ⟨ga, a1, a2, a3, e⟩ := z_bgl_a 41 (k := 0) S0 (by omega) (by omega) e
  have Sa : SH ga.2 := by rw [a1]; exact S0
  obtain ⟨gb, b1, b2, b3, e⟩ := z_bgl_b 6 (k := 0) Sa (by omega) (by omega) (z_bg_ax Sa e)
  have Sb : SH gb.2 := by rw [b1]; exact Sa
  obtain ⟨gc, c1, c2, c3, e⟩ := z_bgl_c 25 (k := 0) Sb (by omega) (by omega) (z_bg_bx Sb e)
  have Sc : SH gc.2 := by rw [c1]; exact Sb
  obtain ⟨gd, d1, d2, d3, e⟩ := z_bgl_d 193 (k := 0) Sc (by omega) (by omega) (z_bg_cx Sc e)
  have Sd : SH gd.2 := by rw [d1]; exact Sc
  obtain ⟨ge, e1, e2, e3, e⟩ := z_bgl_e 7 (k := 0) Sd (by omega) (by omega) (z_bg_dx Sd e)
  have Se : SH ge.2 := by rw [e1]; exact Sd
  have w := z_bg_x Se e
  -- what the later loops leave alone
  have lE : ∀ K j : Nat, ¬ (K = 261 ∨ K = 262 ∨ K = 269 ∨ K = 270 ∨ K = 271 ∨ K = 272) → ge.1 K j = gd.1 K j := fun K j z => e2 K j (by omega)
  have lD : ∀ K j : Nat, ¬ (K = 255 ∨ K = 258 ∨ K = 264 ∨ K = 265) → gd.1 K j = gc.1 K j := fun K j z => d2 K j (by omega)
  have lC : ∀ K j : Nat, ¬ (K = 254 ∨ K = 263 ∨ K = 266 ∨ K = 267) → gc.1 K j = gb.1 K j := fun K j z => c2 K j (by omega)
  have lB : ∀ K j : Nat, ¬ (K = 243 ∨ K = 244 ∨ K = 245 ∨ K = 251) → gb.1 K j = ga.1 K j := fun K j z => b2 K j (by omega)
  have lA : ∀ K j : Nat, ¬ (238 ≤ K ∧ K ≤ 242) → ga.1 K j = g0.1 K j := fun K j z => a2 K j (by omega)
  have l0 : ∀ K j : Nat, K < 238 → ge.1 K j = g0.1 K j := fun K j z => by rw [lE _ _ (by omega), lD _ _ (by omega), lC _ _ (by omega), lB _ _ (by omega), lA _ _ (by omega)]
  refine ⟨ge, w, e1.trans (d1.trans (c1.trans (b1.trans (a1.trans (by rw [eg]; rfl))))), ⟨?_, ?_, ?_⟩, fun j j1 j2 j3 => ?_, fun K j k1 k2 => ?_, fun j hj => ?_, fun j hj => ?_, fun j hj => ?_, fun j hj => ?_, fun j hj => ?_⟩
  · rw [l0 _ _ (by omega), eg]; simp (disch := omega) only [setI_at, setI_no]
  · rw [l0 _ _ (by omega), eg]; simp (disch := omega) only [setI_at, setI_no]
  · rw [l0 _ _ (by omega), eg]; simp (disch := omega) only [setI_at, setI_no]
  · rw [l0 _ _ (by omega), eg]; simp (disch := omega) only [setI_no]
  · rw [l0 _ _ (by omega), eg]; simp (disch := omega) only [setI_no]
  · rw [lE _ _ (by omega), lD _ _ (by omega), lC _ _ (by omega), lB _ _ (by omega), lE _ _ (by omega), lD _ _ (by omega), lC _ _ (by omega), lB _ _ (by omega), lE _ _ (by omega), lD _ _ (by omega), lC _ _ (by omega), lB _ _ (by omega), lE _ _ (by omega), lD _ _ (by omega), lC _ _ (by omega), lB _ _ (by omega), lE _ _ (by omega), lD _ _ (by omega), lC _ _ (by omega), lB _ _ (by omega)]
    exact a3 j (by omega) hj
  · rw [lE _ _ (by omega), lD _ _ (by omega), lC _ _ (by omega), lE _ _ (by omega), lD _ _ (by omega), lC _ _ (by omega), lE _ _ (by omega), lD _ _ (by omega), lC _ _ (by omega), lE _ _ (by omega), lD _ _ (by omega), lC _ _ (by omega)]
    exact b3 j (by omega) hj
  · rw [lE _ _ (by omega), lD _ _ (by omega), lE _ _ (by omega), lD _ _ (by omega)]
    exact ⟨(c3 j (by omega) hj).1, (c3 j (by omega) hj).2.1⟩
  · rw [lE _ _ (by omega), lE _ _ (by omega), lE _ _ (by omega)]
    obtain ⟨q1, -, q3, q4⟩ := d3 j (by omega) hj
    refine ⟨q1, q3, q4.trans ?_⟩
    rw [lC _ _ (by omega), lB _ _ (by omega), lA _ _ (by omega), eg]
    simp (disch := omega) only [setI_no]
  · obtain ⟨q1, q2, -, -, q5, q6⟩ := e3 j (by omega) hj
    exact ⟨q1, q2, q5, q6⟩
