
set_option maxRecDepth 20000
/-! LOOKING -/
def lookW (h : Hp) (x : Int) : Prop := (rd 32 (rd 36 x h) h = 5 ∧ rd 63 (32 * rd 36 x h + rd 38 x h) h = 0 ∧ rd 72 (32 * rd 36 x h + rd 38 x h) h ≠ 0) ∨ (rd 32 (rd 36 x h) h ≠ 5 ∧ rd 70 (rd 36 x h) h = 0 ∧ ((rd 37 x h < 2 ∧ rd 33 (rd 36 x h) h ≤ rd 69 (rd 36 x h) h) ∨ (2 ≤ rd 37 x h ∧ rd 37 x h < 4 ∧ rd 69 (rd 36 x h) h ≤ 0)))
def lookS (h : Hp) (x : Int) : Prop := rd 32 (rd 36 x h) h = 5 ∧ rd 63 (32 * rd 36 x h + rd 38 x h) h ≠ 0
def lookC (h : Hp) (x : Int) : Int := if rd 32 (rd 36 x h) h = 5 then 0 else if rd 37 x h < 2 then rd 70 (rd 36 x h) h else if rd 37 x h < 4 ∧ rd 69 (rd 36 x h) h ≤ 0 then rd 70 (rd 36 x h) h else 0
def Sm (K : Nat) (h h' : Hp) : Prop := ∀ i, 0 ≤ i → rd K i h' = rd K i h
def LookP (h : Hp) (c x : Int) (h' : Hp) : Prop :=
  Fq [48, 52, 53, 54, 55, 56, 57, 59, 62] [] h h' ∧ Up 57 c (lookC h x) h h' ∧ (∀ i, 0 ≤ i → i ≠ c → rd 55 i h' = rd 55 i h) ∧
  ((lookW h x ∧ ¬ lookS h x ∧ Up 53 c 1 h h' ∧ Up 52 c (-1) h h' ∧ Up 54 c (rd 31 15 h + 1) h h' ∧ Up 62 (4 * rd 36 x h) (if rd 62 (4 * rd 36 x h) h = c then -1 else rd 62 (4 * rd 36 x h) h) h h' ∧ Sm 59 h h') ∨
   (¬ lookW h x ∧ lookS h x ∧ Sm 53 h h' ∧ Up 52 c 2 h h' ∧ Sm 54 h h' ∧ Sm 62 h h' ∧ Up 59 c 1 h h') ∨
   (¬ lookW h x ∧ ¬ lookS h x ∧ Sm 53 h h' ∧ Sm 52 h h' ∧ Sm 54 h h' ∧ Sm 62 h h' ∧ Sm 59 h h'))
theorem c_look {h : Hp} (hT : TInv h) {c x : Int} (b_c : 0 ≤ c ∧ c ≤ 4) (b_x : 0 ≤ x ∧ x ≤ 39) (hk5 : rd 32 (rd 36 x h) h = 5 → 0 ≤ rd 38 x h ∧ rd 38 x h ≤ 31) :
    ∃ h', (∀ d, 3 ≤ d → Ev d 167 (0, fl_enter 6 [rv 31, iv c, iv x], [], h, fl_tot) (none, h', fl_tot)) ∧ Nx h h' ∧ LookP h c x h' := by
  have b_t := rda_ok hT 36 40 0 5 rfl (i := x) (by omega) (by omega)
  have b_s : 0 ≤ rd 31 15 h ∧ rd 31 15 h ≤ 600 := rdt_ok hT 31 15
  have b_o := rda_ok hT 62 24 (-1) 4 rfl (i := 4 * rd 36 x h) (by omega) (by omega)
  have G0 : ∀ v, 0 ≤ v ∧ v ≤ 1 → Fq [57] [] h (wr 57 c v (wr 57 c 0 h)) ∧ Up 57 c v h (wr 57 c v (wr 57 c 0 h)) := fun v hv => ⟨((Fq.refl h).put 57 c 0 rfl).put 57 c v rfl, fun i hi => by
    simp (disch := omega) only [rd_wr]
    split <;> rfl⟩
  have G1 : Fq [57] [] h (wr 57 c 0 h) ∧ Up 57 c 0 h (wr 57 c 0 h) := ⟨(Fq.refl h).put 57 c 0 rfl, Up.wr b_c.1 (by omega) (by omega)⟩
  have finW : ∀ {G : Hp} {v o w : Int}, Fq [57] [] h G ∧ Up 57 c v h G → v = lookC h x → lookW h x → ¬ lookS h x → o = (if rd 62 (4 * rd 36 x h) h = c then -1 else rd 62 (4 * rd 36 x h) h) → LookP h c x (wr 52 c (-1) (wr 48 x w (wr 54 c (rd 31 15 h + 1) (wr 53 c 1 (wr 62 (4 * rd 36 x h) o G))))) := by
    intro G v o w g e1 e2 e3 e4
    have bo : -1 ≤ o ∧ o ≤ 4 := by rw [e4]; split <;> omega
    have F := (((((Fq.refl (Ks := [48, 52, 53, 54, 62]) (fs := []) G).put 62 (4 * rd 36 x h) o rfl).put 53 c 1 rfl).put 54 c (rd 31 15 h + 1) rfl).put 48 x w rfl).put 52 c (-1) rfl
    refine ⟨(g.1.wide rfl rfl).trans (F.wide rfl rfl), fun i hi => ?_, fun i hi hne => ?_, Or.inl ⟨e2, e3, fun i hi => ?_, fun i hi => ?_, fun i hi => ?_, fun i hi => ?_, fun i hi => ?_⟩⟩
    · rw [F.k 57 i rfl, g.2 i hi, e1]
    · rw [F.k 55 i rfl, g.1.k 55 i rfl]
    · rw [← g.1.k 53 i rfl]
      simp (disch := omega) only [rdk, rd_wr]
    · rw [← g.1.k 52 i rfl]
      simp (disch := omega) only [rdk, rd_wr]
    · rw [← g.1.k 54 i rfl]
      simp (disch := omega) only [rdk, rd_wr]
    · rw [← g.1.k 62 i rfl, ← e4]
      simp (disch := omega) only [rdk, rd_wr]
    · rw [F.k 59 i rfl, g.1.k 59 i rfl]
  have finN : ∀ {G : Hp} {v : Int}, Fq [56, 57] [] h G ∧ Up 57 c v h G → v = lookC h x → ¬ lookW h x → ¬ lookS h x → LookP h c x G := by
    intro G v g e1 e2 e3
    refine ⟨g.1.wide rfl rfl, g.2.eq e1, fun i hi hne => g.1.k 55 i rfl, Or.inr (Or.inr ⟨e2, e3, fun i _ => g.1.k 53 i rfl, fun i _ => g.1.k 52 i rfl, fun i _ => g.1.k 54 i rfl, fun i _ => g.1.k 62 i rfl, fun i _ => g.1.k 59 i rfl⟩)⟩
  have wd : ∀ {G : Hp} {v : Int}, Fq [57] [] h G ∧ Up 57 c v h G → Fq [56, 57] [] h G ∧ Up 57 c v h G := fun g => ⟨g.1.wide rfl rfl, g.2⟩
  have w6 : ∀ {G : Hp} {v w : Int}, Fq [57] [] h G ∧ Up 57 c v h G → Fq [56, 57] [] h (wr 56 c w G) ∧ Up 57 c v h (wr 56 c w G) := fun g => ⟨(g.1.wide rfl rfl).put 56 c _ rfl, fun i hi => by
    rw [← g.2 i hi]
    simp (disch := omega) only [rdk]⟩
  rcases s167 hT b_c b_x (LVs.self (fl_enter 6 [rv 31, iv c, iv x])) with ⟨trayOf5, opOf7, kind10, g1, rfl, f0, f1, f2, rfl, rfl, rfl, f6, f7, f8, T, K⟩ | ⟨trayOf5, opOf7, kind10, many12, isClosed14, trayOf15, n16, owner18, owner19, steps22, waits24, n25, g1, g2, g3, g4, g5, g6, rfl, rfl, rfl, rfl, rfl, rfl, f0, f1, f2, f3, f4, f5, f6, f7, f8, f9, f10, f11, rfl, rfl, rfl, f15, f16, f17, rfl, f19, rfl, f21, rfl, rfl, rfl, f25, rfl, rfl, rfl, T, K⟩ | ⟨trayOf5, opOf7, kind10, many12, isClosed14, trayOf15, n16, owner18, steps21, waits23, n24, g1, g2, g3, g4, g5, g6, rfl, rfl, rfl, rfl, rfl, rfl, f0, f1, f2, f3, f4, f5, f6, f7, f8, f9, f10, rfl, rfl, rfl, f14, f15, f16, rfl, f18, rfl, f20, rfl, rfl, rfl, f24, rfl, rfl, T, K⟩ | ⟨trayOf5, opOf7, kind10, many12, isClosed14, g1, g2, rfl, rfl, f0, f1, f2, f3, f4, rfl, rfl, rfl, f8, f9, f10, rfl, f12, rfl, f14, T, K⟩ | ⟨trayOf5, opOf7, kind10, many12, n15, many16, g1, rfl, f0, f1, f2, f3, f4, f5, rfl, rfl, rfl, f9, f10, f11, rfl, f13, rfl, f15, rfl, f17⟩ | ⟨trayOf5, opOf7, kind10, many12, n15, many16, n17, row18, g1, g2, rfl, rfl, f0, f1, f2, f3, f4, f5, f6, f7, rfl, rfl, rfl, f11, f12, f13, rfl, f15, rfl, f17, rfl, rfl, rfl, T, K⟩ | ⟨trayOf5, opOf7, kind10, many12, n15, row16, g1, g2, rfl, rfl, f0, f1, f2, f3, f4, f5, rfl, rfl, rfl, f9, f10, f11, rfl, f13, rfl, f15, rfl, T, K⟩ | ⟨trayOf5, opOf7, kind10, isClosed12, isClosed13, g1, g2, rfl, rfl, f0, f1, f2, f3, f4, rfl, rfl, rfl, f8, f9, rfl, rfl, f12, T, K⟩ | ⟨trayOf5, opOf7, kind10, isClosed12, isClosed13, many15, room17, g1, g2, rfl, rfl, f0, f1, f2, f3, f4, f5, f6, rfl, rfl, rfl, f10, f11, rfl, rfl, f14, rfl, rfl, f17, T, K⟩ | ⟨trayOf5, opOf7, kind10, isClosed12, isClosed13, many15, room17, trayOf18, n19, owner21, owner22, steps25, waits27, n28, g1, g2, g3, g4, g5, g6, g7, rfl, rfl, rfl, rfl, rfl, rfl, rfl, f0, f1, f2, f3, f4, f5, f6, f7, f8, f9, f10, f11, f12, f13, rfl, rfl, rfl, f17, f18, rfl, rfl, f21, rfl, rfl, f24, rfl, rfl, rfl, f28, rfl, rfl, rfl, T, K⟩ | ⟨trayOf5, opOf7, kind10, isClosed12, isClosed13, many15, room17, trayOf18, n19, owner21, steps24, waits26, n27, g1, g2, g3, g4, g5, g6, g7, rfl, rfl, rfl, rfl, rfl, rfl, rfl, f0, f1, f2, f3, f4, f5, f6, f7, f8, f9, f10, f11, f12, rfl, rfl, rfl, f16, f17, rfl, rfl, f20, rfl, rfl, f23, rfl, rfl, rfl, f27, rfl, rfl, T, K⟩ | ⟨trayOf5, opOf7, kind10, n11, aOf13, g1, rfl, f0, f1, f2, f3, f4, rfl, rfl, rfl, f8, rfl, rfl, f11⟩ | ⟨trayOf5, opOf7, kind10, n11, aOf13, g1, rfl, f0, f1, f2, f3, f4, rfl, rfl, rfl, f8, rfl, rfl, f11⟩ | ⟨trayOf5, opOf7, kind10, n11, aOf13, n14, has16, marked18, g1, rfl, f0, f1, f2, f3, f4, f5, f6, f7, rfl, rfl, rfl, f11, rfl, rfl, rfl, rfl, f16, rfl, f18, T, K⟩ | ⟨trayOf5, opOf7, kind10, n11, aOf13, n14, has16, marked18, trayOf19, n20, owner22, owner23, steps26, waits28, n29, g1, g2, g3, g4, g5, g6, rfl, rfl, rfl, rfl, rfl, rfl, f0, f1, f2, f3, f4, f5, f6, f7, f8, f9, f10, f11, f12, f13, f14, rfl, rfl, rfl, f18, rfl, rfl, rfl, rfl, f23, rfl, f25, rfl, rfl, rfl, f29, rfl, rfl, rfl, T, K⟩ | ⟨trayOf5, opOf7, kind10, n11, aOf13, n14, has16, marked18, trayOf19, n20, owner22, steps25, waits27, n28, g1, g2, g3, g4, g5, g6, rfl, rfl, rfl, rfl, rfl, rfl, f0, f1, f2, f3, f4, f5, f6, f7, f8, f9, f10, f11, f12, f13, rfl, rfl, rfl, f17, rfl, rfl, rfl, rfl, f22, rfl, f24, rfl, rfl, rfl, f28, rfl, rfl, T, K⟩ | ⟨trayOf5, opOf7, kind10, n11, aOf13, n14, has16, value20, g1, g2, g3, g4, g5, rfl, rfl, rfl, rfl, rfl, f0, f1, f2, f3, f4, f5, f6, f7, rfl, rfl, rfl, f11, rfl, rfl, rfl, rfl, f16, rfl, T, K⟩
  all_goals first | (exfalso; omega) | skip
  · exact ⟨_, fun d hd => K d hd, T, finN (wd G1) (by unfold lookC; (repeat (first | rw [if_pos (by omega)] | rw [if_neg (by omega)])); try omega) (by unfold lookW; omega) (by unfold lookS; omega)⟩
  · exact ⟨_, fun d hd => K d hd, T, finW G1 (by unfold lookC; (repeat (first | rw [if_pos (by omega)] | rw [if_neg (by omega)])); try omega) (by unfold lookW; omega) (by unfold lookS; omega) (by first | rw [if_pos (by omega)] | rw [if_neg (by omega)])⟩
  · exact ⟨_, fun d hd => K d hd, T, finW G1 (by unfold lookC; (repeat (first | rw [if_pos (by omega)] | rw [if_neg (by omega)])); try omega) (by unfold lookW; omega) (by unfold lookS; omega) (by first | rw [if_pos (by omega)] | rw [if_neg (by omega)])⟩
  · exact ⟨_, fun d hd => K d hd, T, finN (wd (G0 1 (by omega))) (by unfold lookC; (repeat (first | rw [if_pos (by omega)] | rw [if_neg (by omega)])); try omega) (by unfold lookW; omega) (by unfold lookS; omega)⟩
  · exact ⟨_, fun d hd => K d hd, T, finN (w6 G1) (by unfold lookC; (repeat (first | rw [if_pos (by omega)] | rw [if_neg (by omega)])); try omega) (by unfold lookW; omega) (by unfold lookS; omega)⟩
  · exact ⟨_, fun d hd => K d hd, T, finN (w6 G1) (by unfold lookC; (repeat (first | rw [if_pos (by omega)] | rw [if_neg (by omega)])); try omega) (by unfold lookW; omega) (by unfold lookS; omega)⟩
  · exact ⟨_, fun d hd => K d hd, T, finN (wd (G0 _ (by omega))) (by unfold lookC; (repeat (first | rw [if_pos (by omega)] | rw [if_neg (by omega)])); try omega) (by unfold lookW; omega) (by unfold lookS; omega)⟩
  · exact ⟨_, fun d hd => K d hd, T, finN (wd (G0 _ (by omega))) (by unfold lookC; (repeat (first | rw [if_pos (by omega)] | rw [if_neg (by omega)])); try omega) (by unfold lookW; omega) (by unfold lookS; omega)⟩
  · exact ⟨_, fun d hd => K d hd, T, finW (G0 _ (by omega)) (by unfold lookC; (repeat (first | rw [if_pos (by omega)] | rw [if_neg (by omega)])); try omega) (by unfold lookW; omega) (by unfold lookS; omega) (by first | rw [if_pos (by omega)] | rw [if_neg (by omega)])⟩
  · exact ⟨_, fun d hd => K d hd, T, finW (G0 _ (by omega)) (by unfold lookC; (repeat (first | rw [if_pos (by omega)] | rw [if_neg (by omega)])); try omega) (by unfold lookW; omega) (by unfold lookS; omega) (by first | rw [if_pos (by omega)] | rw [if_neg (by omega)])⟩
  · exact ⟨_, fun d hd => K d hd, T, finN (wd G1) (by unfold lookC; (repeat (first | rw [if_pos (by omega)] | rw [if_neg (by omega)])); try omega) (by unfold lookW; omega) (by unfold lookS; omega)⟩
  · exact ⟨_, fun d hd => K d hd, T, finW G1 (by unfold lookC; (repeat (first | rw [if_pos (by omega)] | rw [if_neg (by omega)])); try omega) (by unfold lookW; omega) (by unfold lookS; omega) (by first | rw [if_pos (by omega)] | rw [if_neg (by omega)])⟩
  · exact ⟨_, fun d hd => K d hd, T, finW G1 (by unfold lookC; (repeat (first | rw [if_pos (by omega)] | rw [if_neg (by omega)])); try omega) (by unfold lookW; omega) (by unfold lookS; omega) (by first | rw [if_pos (by omega)] | rw [if_neg (by omega)])⟩
  refine ⟨_, fun d hd => K d hd, T, ?_⟩
  have F := ((((Fq.refl (Ks := [52, 55, 56, 59]) (fs := []) (wr 57 c 0 h)).put 55 c 1 rfl).put 56 c (rd 64 (32 * rd 36 x h + rd 38 x h) h) rfl).put 59 c 1 rfl).put 52 c 2 rfl
  refine ⟨(G1.1.wide rfl rfl).trans (F.wide rfl rfl), fun i hi => ?_, fun i hi hne => ?_, Or.inr (Or.inl ⟨by unfold lookW; omega, by unfold lookS; omega, fun i hi => ?_, fun i hi => ?_, fun i hi => ?_, fun i hi => ?_, fun i hi => ?_⟩)⟩
  · rw [F.k 57 i rfl, G1.2 i hi, show lookC h x = 0 from by unfold lookC; rw [if_pos (by omega)]]
  · simp (disch := omega) only [rdk, rd_wr]
    rw [if_neg hne]
  · rw [F.k 53 i rfl, G1.1.k 53 i rfl]
  · simp (disch := omega) only [rdk, rd_wr]
  · rw [F.k 54 i rfl, G1.1.k 54 i rfl]
  · rw [F.k 62 i rfl, G1.1.k 62 i rfl]
  · simp (disch := omega) only [rdk, rd_wr]
