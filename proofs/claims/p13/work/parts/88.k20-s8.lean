
set_option maxRecDepth 20000
/-! A STEP, BOTH SIDES: whole -/
theorem GO.imp {g : Hp} {st c i q : Nat} {L : List (Option Value)} {Z Z' : Hp → Hp → Prop} {d2 : Nat} {r r2 : Option Value × Hp × Nat} (f : ∀ h' hm', Z h' hm' → Z' h' hm') (x : GO g st c i q L Z d2 r r2) : GO g st c i q L Z' d2 r r2 := by
  obtain ⟨h', hm', w, z, R⟩ := x
  exact ⟨h', hm', w, z, R.imp (f _ _)⟩
def ZN (g : Hp) (c i p : Nat) (h' hm' : Hp) : Prop := CUn g h' hm' c i (p + 1) p (p + 1) ∨ (stC (qJ g c i) p = 4 ∧ (CUw g h' hm' c i (-1) ∨ CUs g h' hm' c i 2 2 3))
theorem go_any {g h hm : Hp} {st c i p d d2 : Nat} {r r2 : Option Value × Hp × Nat} (G : GS g) (R : RRM g h hm st c i st (CUn g h hm c i p p p)) (hp : p < stLen (qJ g c i)) (fr : stC (qJ g c i) p = 0 → qF g c i = 1 ∨ hm.1 254 (4 * qT g c i + (qM g c i p).toNat) = Int32.ofInt (-1) ∨ hm.1 254 (4 * qT g c i + (qM g c i p).toNat) = Int32.ofNat c) (hxT : TInv h) (MPh : MP hm) (h42 : 0 ≤ rd 31 42 hm ∧ rd 31 42 hm ≤ 90000) (rm : stC (qJ g c i) p = 3 → qK g c i = 1 ∧ qO g c i < 1 ∨ qK g c i = 2 ∧ qO g c i < 2 → (hm.1 261 (qT g c i)).toInt ≤ 39) (st9 : st < 600) (e : Ev d 45 (0, [some (.ref 208), some (.ref (148 + 12 * c)), some (.ref (152 + 12 * c + i)), some (.int (Int32.ofNat st)), none], [], h, fl_tot) r) (e2 : Ev d2 158 (113, lsM g c i p, [], hm, fl_tot) r2) : GO g st c i p (lsM g c i p) (ZN g c i p) d2 r r2 := by
  have hc := R.2.2.2.1
  have hi := R.2.2.2.2.1
  have tb := G.tb hc hi hp
  have I := G.k hc hi
  obtain ⟨-, -, o0, o1⟩ := G.op hc hi
  have l : ∀ h' hm', CUn g h' hm' c i (p + 1) p (p + 1) → ZN g c i p h' hm' := fun _ _ z => Or.inl z
  have cs : stC (qJ g c i) p = 0 ∨ stC (qJ g c i) p = 1 ∨ stC (qJ g c i) p = 2 ∨ stC (qJ g c i) p = 3 ∨ stC (qJ g c i) p = 4 ∨ stC (qJ g c i) p = 5 ∨ stC (qJ g c i) p = 6 := by
    have := tb.1
    omega
  rcases cs with hC | hC | hC | hC | hC | hC | hC
  · exact (go_take G R hp hC (fr hC) e e2).imp l
  · exact (go_give G R hp hC e e2).imp l
  · rcases (tb.2.2.1 hC).2 with hk | hk | hk | hk
    · exact (go_read_m G R hp hC hk hxT MPh h42 e e2).imp l
    · exact (go_read_q G R hp hC hk e e2).imp l
    · exact (go_read_c G R hp hC hk e e2).imp l
    · exact (go_read_k G R hp hC hk e e2).imp l
  · have t3 := tb.2.2.2.2.2.2.2.2 hC
    have k6 : qK g c i = 0 ∨ qK g c i = 1 ∨ qK g c i = 2 ∨ qK g c i = 3 ∨ qK g c i = 4 ∨ qK g c i = 5 := by omega
    rcases k6 with hk | hk | hk | hk | hk | hk
    · have n1 : qO g c i ≠ 1 := fun z => t3.2.2.2.2 ⟨hk, z⟩
      have b3 : qO g c i ≤ 3 := by rw [hk, show opMax 0 = 3 by decide] at o1; exact o1
      have oo : qO g c i = 0 ∨ qO g c i = 2 ∨ qO g c i = 3 := by omega
      rcases oo with ho | ho | ho
      · exact (go_write_m0 G R hp hC hk ho hxT MPh h42 e e2).imp l
      · exact (go_write_m2 G R hp hC hk ho hxT MPh h42 e e2).imp l
      · exact (go_write_m3 G R hp hC hk ho hxT MPh h42 e e2).imp l
    · exact (go_write_q G R hp hC hk (fun z => rm hC (Or.inl ⟨hk, z⟩)) e e2).imp l
    · exact (go_write_d G R hp hC hk (by omega) (fun z => rm hC (Or.inr ⟨hk, z⟩)) e e2).imp l
    · exact (go_write_c G R hp hC hk e e2).imp l
    · exact (go_write_k G R hp hC hk e e2).imp l
    · exact (go_write_o G R hp hC hk e e2).imp l
  · have l4 : ∀ h' hm', ZM g c i p h' hm' → ZN g c i p h' hm' := fun _ _ z => z.elim Or.inl fun z => Or.inr ⟨hC, z⟩
    rcases (tb.2.2.2.1 hC).2.2 with hk | hk
    · exact (go_look_d G R hp hC hk e e2).imp l4
    · exact (go_look_o G R hp hC hk e e2).imp l4
  · exact (go_mark G R hp hC e e2).imp l
  · exact (go_make G R hp hC e e2).imp l
theorem mk_in {g h hm : Hp} {st c i : Nat} {b : Int} {Z : Prop} (R : RRM g h hm st c i b Z) : ∃ mk : Nat, hm.1 223 16 = Int32.ofNat mk ∧ mk < 80 := by
  obtain ⟨mk, e16, m8⟩ := mk_of R.1.2.2.2.2
  have b := R.2.2.2.2.2.2.1.2
  rw [e16, i32n (by omega)] at b
  exact ⟨mk, e16, by omega⟩
theorem qS_s {g : Hp} {c i : Nat} (k5 : qK g c i = 5) : qS g c i 3 = 200 := by
  unfold qS stF stO
  rw [k5]
  simp
/-- what the reference's books grant before a step -/
theorem z_pre {g h hm : Hp} {c i : Nat} (G : GS g) (M : SM g hm) (hT : TInv hm) (I : RI hm) (hc : c < qc g) (hi : i < qm g c) (CK : CKi g h hm c i) : (hm.1 223 16).toInt ≤ 79 ∧ ((hm.1 241 (8 * c + i)).toInt = -1 → (hm.1 223 16).toInt ≤ 78) ∧ ∀ q : Nat, q ≤ 20 → qS g c i q = 2 → hm.1 245 c = Int32.ofInt 0 → hm.1 244 c = Int32.ofInt (q : Int) → qK g c i = 1 ∧ qO g c i < 1 ∨ qK g c i = 2 ∧ qO g c i < 2 → (hm.1 261 (qT g c i)).toInt ≤ 39 := by
  have c5 := G.c5 hc
  have i8 := G.i8 hc hi
  obtain ⟨s1, s2, s3, s4, s5, s6, s7⟩ := SM.st G M hc hi
  have T6 := G.T6 hc hi
  have r4 : rd 31 4 hm = qc g := by
    rw [show (4 : Int) = ((4 : Nat) : Int) from rfl, xrd (by decide) (by decide)]
    show (hm.1 223 4).toInt = _
    rw [M.2.2.1]
    exact G.1.2.2.2
  have r51 : rd 51 (c : Int) hm = i := by
    rw [xrd (by decide) (by decide)]
    show (hm.1 243 c).toInt = _
    rw [CK.1.2.1, i32n (by omega)]
  have r35 : rd 35 (c : Int) hm = qm g c := by
    rw [xrd (by decide) (by decide)]
    show (hm.1 227 c).toInt = _
    rw [M.2.2.2 227 c (by decide) (by decide)]
    exact (G.2.2 c hc).1
  have P := I.pre hT (c := c) (by omega) (by rw [r4]; omega) (by rw [r51, r35]; omega)
  rw [r51] at P
  have ex : (8 * (c : Int) + i) = ((8 * c + i : Nat) : Int) := by omega
  have r16 : rd 31 16 hm = (hm.1 223 16).toInt := xrd (by decide) (by decide) 16 hm
  have r49 : rd 49 (8 * (c : Int) + i) hm = (hm.1 241 (8 * c + i)).toInt := by rw [ex, xrd (by decide) (by decide)]
  have r36 : rd 36 (8 * (c : Int) + i) hm = ((qT g c i : Nat) : Int) := by
    rw [ex, xrd (by decide) (by decide)]
    show (hm.1 228 (8 * c + i)).toInt = _
    rw [s2, i32n (by omega)]
  have r32 : rd 32 (rd 36 (8 * (c : Int) + i) hm) hm = qK g c i := by
    rw [r36, xrd (by decide) (by decide)]
    exact s3
  have r37 : rd 37 (8 * (c : Int) + i) hm = qO g c i := by
    rw [ex, xrd (by decide) (by decide)]
    show (hm.1 229 (8 * c + i)).toInt = _
    rw [s5]
    rfl
  have r69 : rd 69 (rd 36 (8 * (c : Int) + i) hm) hm = (hm.1 261 (qT g c i)).toInt := by rw [r36, xrd (by decide) (by decide)]
  have r52 : rd 52 (c : Int) hm = (hm.1 244 c).toInt := xrd (by decide) (by decide) c hm
  have r53 : rd 53 (c : Int) hm = (hm.1 245 c).toInt := xrd (by decide) (by decide) c hm
  rw [r16, r49, r32, r37, r69, r52, r53, s1] at P
  obtain ⟨-, p1, p2, -, -, p3⟩ := P
  refine ⟨p1, p2, fun q q20 hq w0 w1 hk => ?_⟩
  rw [w1, w0, kc (by omega) (by omega)] at p3
  have o0 := (G.op hc hi).2.2.1
  exact p3 hq (by decide) (by omega)
theorem RR.step {g h hm : Hp} {st c i d d2 : Nat} {r r2 : Option Value × Hp × Nat} (G : GS g) (R : RR g h hm st) (hxT : TInv h) (I : RI hm) (hc : c < qc g) (hi : i < qm g c) (CK : CKi g h hm c i) (U : CU g h hm c i) (ab : ∀ p : Nat, p < stLen (qJ g c i) → stC (qJ g c i) p = 0 → hm.1 245 c = Int32.ofInt 0 → hm.1 244 c = Int32.ofInt (p : Int) → qF g c i = 1 ∨ hm.1 254 (4 * qT g c i + (qM g c i p).toNat) = Int32.ofInt (-1) ∨ hm.1 254 (4 * qT g c i + (qM g c i p).toNat) = Int32.ofNat c) (st9 : st < 600) (e : Ev d 42 (0, [some (.ref 208), some (.ref (148 + 12 * c)), some (.int (Int32.ofNat st)), none], [], h, fl_tot) r) (e2 : Ev d2 158 (0, [some (.ref 223), some (.int (Int32.ofNat c)), none, none, none, none], [], hm, fl_tot) r2) : ∃ h' hm', r = (none, h', fl_tot) ∧ r2 = (none, hm', fl_tot) ∧ RR g h' hm' (st + 1) := by
  have hT := R.1.2.2.2.2
  have M0 := R.1.2.1
  obtain ⟨p1, p2, p3⟩ := z_pre G M0 hT I hc hi CK
  obtain ⟨h1, hm1, e1, f1, R1, xT1, F⟩ := ph_begin G R hc hi CK U p1 p2 st9 hxT e e2
  clear e e2
  obtain ⟨⟨X, M, S15, K, hT1⟩, RT, RO, -, -, CK1, b1, b2, U1⟩ := id R1
  have c5 := G.c5 hc
  have i8 := G.i8 hc hi
  have T6 := G.T6 hc hi
  have g44 : hm1.1 244 c = hm.1 244 c := F.c (K := 52) (by decide) (by decide) (by decide) c
  have g45 : hm1.1 245 c = hm.1 245 c := F.c (K := 53) (by decide) (by decide) (by decide) c
  have g54 : ∀ j, hm1.1 254 j = hm.1 254 j := fun j => F.c (K := 62) (by decide) (by decide) (by decide) j
  have g61 : ∀ j, hm1.1 261 j = hm.1 261 j := fun j => F.c (K := 69) (by decide) (by decide) (by decide) j
  have MPh : MP hm1 := MPx.fr F (by decide) I.2.2.2.2.1
  have h42 : 0 ≤ rd 31 42 hm1 ∧ rd 31 42 hm1 ≤ 90000 := by
    rw [F.f 42 (by decide)]
    have a := I.2.2.2.2.2
    have r15 : rd 31 15 hm = st := by
      rw [show (15 : Int) = ((15 : Nat) : Int) from rfl, xrd (by decide) (by decide)]
      show (hm.1 223 15).toInt = _
      rw [R.1.2.2.1, i32n (by omega)]
    rw [r15] at a
    omega
  rcases U1 with W | ⟨p, hp, W⟩ | W
  · exact ph_weary G (R1.imp fun _ => W) st9 e1 f1
  · have p10 : p < 10 := by have := (G.len hc hi).2.1; omega
    obtain ⟨-, e70⟩ := y_do_n (nk := 0) (X.sq c5) T6 c5 i8 (X.ak G hc hi) (by rw [W.1.1]; decide) e1
    have e113 := z_entry (q := p) G M hT1 hc hi (by omega) W.1.2 W.2.2.1 f1
    have R2 := R1.imp fun _ => W
    have I3 := (G.inn hc hi hp).1
    obtain ⟨h2, hm2, e3, e4, R3⟩ := ph_go (Z := ZN g c i p) G (fun d d2 r r2 e e2 => go_any G R2 hp (fun hC => by rw [g54]; exact ab p hp hC (by rw [← g45]; exact W.1.2) (by rw [← g44]; exact W.2.2.1)) xT1 MPh h42 (fun hC => by
      rw [g61]
      exact p3 p (by omega) (by rw [I3, hC]; rfl) (by rw [← g45]; exact W.1.2) (by rw [← g44]; exact W.2.2.1)) st9 e e2) e70 e113
    obtain ⟨mk, e16, mk8⟩ := mk_in R3
    rcases R3.2.2.2.2.2.2.2.2 with Z | ⟨hC, Z | Z⟩
    · exact ph_n G (R3.imp fun _ => Z) hp e16 mk8 st9 e3 e4
    · exact ph_w G (R3.imp fun _ => Z) e16 mk8 st9 e3 e4
    · exact ph_s G (R3.imp fun _ => Z) (by rw [I3, hC]; exact (by decide : (Int32.ofInt 3).toInt < 200)) e16 mk8 st9 e3 e4
  · obtain ⟨-, e70⟩ := y_do_n (nk := 0) (X.sq c5) T6 c5 i8 (X.ak G hc hi) (by rw [W.1.1]; decide) e1
    have e113 := z_entry (q := 3) G M hT1 hc hi (by omega) W.1.2 W.2.2.1 f1
    have R2 := R1.imp fun _ => W
    obtain ⟨h2, hm2, e3, e4, R3⟩ := ph_go (Z := fun h' hm' => CUs g h' hm' c i 3 3 4) G (fun d d2 r r2 e e2 => go_give_s G R2 e e2) e70 e113
    obtain ⟨mk, e16, mk8⟩ := mk_in R3
    exact ph_se G R3 (by rw [qS_s W.2.2.2.2.2.1]; decide) e16 mk8 st9 e3 e4
