
/-! THE SHAPE OF THE HEAP: which cell a final reference leads to -/
def mrL : List (Nat × Nat) := [(1, 224), (2, 225), (3, 226), (5, 227), (6, 228), (7, 229), (8, 230), (9, 231), (10, 232), (11, 233), (12, 234), (17, 235), (18, 236), (19, 237), (20, 238), (21, 239), (22, 240), (23, 241), (24, 242), (25, 243), (26, 244), (27, 245), (28, 246), (29, 247), (30, 248), (31, 249), (32, 250), (33, 251), (34, 252), (35, 253), (36, 254), (37, 255), (38, 256), (39, 257), (40, 258), (41, 259), (43, 260), (44, 261), (45, 262), (46, 263), (47, 264), (48, 265), (49, 266), (50, 267), (51, 268), (52, 269), (53, 270), (54, 271), (55, 272), (58, 273), (59, 274), (61, 275), (62, 276), (63, 277), (65, 278), (66, 279), (67, 280), (70, 281), (71, 282), (72, 283), (73, 284)]
def SH (R : Nat → Nat → Option Nat) : Prop := (R 0 0 = some 1 ∧ R 0 1 = some 208 ∧ R 0 2 = some 212 ∧ R 0 3 = some 218 ∧ R 0 4 = some 222 ∧ R 1 0 = some 2 ∧ R 1 1 = some 3 ∧ R 208 0 = some 1 ∧ R 208 1 = some 209 ∧ R 208 2 = some 210 ∧ R 208 3 = some 211 ∧ R 212 0 = some 1 ∧ R 212 1 = some 208 ∧ R 212 2 = some 213 ∧ R 212 3 = some 215 ∧ R 212 4 = some 216 ∧ R 212 5 = some 217 ∧ R 213 0 = some 214 ∧ R 218 0 = some 1 ∧ R 218 1 = some 208 ∧ R 218 2 = some 212 ∧ R 218 3 = some 219 ∧ R 218 4 = some 220 ∧ R 218 5 = some 221) ∧ (∀ t : Nat, t < 6 → R 2 t = some (4 + 24 * t) ∧ R (4 + 24 * t) 0 = some (5 + 24 * t) ∧ R (4 + 24 * t) 1 = some (7 + 24 * t) ∧ R (4 + 24 * t) 2 = some (8 + 24 * t) ∧ R (4 + 24 * t) 3 = some (9 + 24 * t) ∧ R (4 + 24 * t) 4 = some (10 + 24 * t) ∧ R (4 + 24 * t) 5 = some (11 + 24 * t) ∧ R (5 + 24 * t) 0 = some (6 + 24 * t)) ∧ (∀ t : Nat, t < 6 → ∀ s : Nat, s < 4 → R (7 + 24 * t) s = some (12 + 24 * t + 4 * s) ∧ R (12 + 24 * t + 4 * s) 2 = some (15 + 24 * t + 4 * s)) ∧ (∀ c : Nat, c < 5 → R 3 c = some (148 + 12 * c) ∧ R (148 + 12 * c) 1 = some (149 + 12 * c) ∧ R (148 + 12 * c) 2 = some (150 + 12 * c) ∧ R (150 + 12 * c) 0 = some (151 + 12 * c)) ∧ (∀ c : Nat, c < 5 → ∀ i : Nat, i < 8 → R (149 + 12 * c) i = some (152 + 12 * c + i)) ∧ (∀ p ∈ mrL, R 223 p.1 = some p.2)
section SHS
variable {R : Nat → Nat → Option Nat}
theorem SH.ix_0 (S : SH R) : R 0 0 = some 1 := S.1.1
theorem SH.ix_1 (S : SH R) : R 0 1 = some 208 := S.1.2.1
theorem SH.ix_2 (S : SH R) : R 0 2 = some 212 := S.1.2.2.1
theorem SH.ix_3 (S : SH R) : R 0 3 = some 218 := S.1.2.2.2.1
theorem SH.ix_4 (S : SH R) : R 0 4 = some 222 := S.1.2.2.2.2.1
theorem SH.desk_0 (S : SH R) : R 1 0 = some 2 := S.1.2.2.2.2.2.1
theorem SH.desk_1 (S : SH R) : R 1 1 = some 3 := S.1.2.2.2.2.2.2.1
theorem SH.run_0 (S : SH R) : R 208 0 = some 1 := S.1.2.2.2.2.2.2.2.1
theorem SH.run_1 (S : SH R) : R 208 1 = some 209 := S.1.2.2.2.2.2.2.2.2.1
theorem SH.run_2 (S : SH R) : R 208 2 = some 210 := S.1.2.2.2.2.2.2.2.2.2.1
theorem SH.run_3 (S : SH R) : R 208 3 = some 211 := S.1.2.2.2.2.2.2.2.2.2.2.1
theorem SH.chk_0 (S : SH R) : R 212 0 = some 1 := S.1.2.2.2.2.2.2.2.2.2.2.2.1
theorem SH.chk_1 (S : SH R) : R 212 1 = some 208 := S.1.2.2.2.2.2.2.2.2.2.2.2.2.1
theorem SH.chk_2 (S : SH R) : R 212 2 = some 213 := S.1.2.2.2.2.2.2.2.2.2.2.2.2.2.1
theorem SH.chk_3 (S : SH R) : R 212 3 = some 215 := S.1.2.2.2.2.2.2.2.2.2.2.2.2.2.2.1
theorem SH.chk_4 (S : SH R) : R 212 4 = some 216 := S.1.2.2.2.2.2.2.2.2.2.2.2.2.2.2.2.1
theorem SH.chk_5 (S : SH R) : R 212 5 = some 217 := S.1.2.2.2.2.2.2.2.2.2.2.2.2.2.2.2.2.1
theorem SH.plain_0 (S : SH R) : R 213 0 = some 214 := S.1.2.2.2.2.2.2.2.2.2.2.2.2.2.2.2.2.2.1
theorem SH.exp_0 (S : SH R) : R 218 0 = some 1 := S.1.2.2.2.2.2.2.2.2.2.2.2.2.2.2.2.2.2.2.1
theorem SH.exp_1 (S : SH R) : R 218 1 = some 208 := S.1.2.2.2.2.2.2.2.2.2.2.2.2.2.2.2.2.2.2.2.1
theorem SH.exp_2 (S : SH R) : R 218 2 = some 212 := S.1.2.2.2.2.2.2.2.2.2.2.2.2.2.2.2.2.2.2.2.2.1
theorem SH.exp_3 (S : SH R) : R 218 3 = some 219 := S.1.2.2.2.2.2.2.2.2.2.2.2.2.2.2.2.2.2.2.2.2.2.1
theorem SH.exp_4 (S : SH R) : R 218 4 = some 220 := S.1.2.2.2.2.2.2.2.2.2.2.2.2.2.2.2.2.2.2.2.2.2.2.1
theorem SH.exp_5 (S : SH R) : R 218 5 = some 221 := S.1.2.2.2.2.2.2.2.2.2.2.2.2.2.2.2.2.2.2.2.2.2.2.2
theorem SH.trs (S : SH R) {t : Nat} (h : t < 6) : R 2 t = some (4 + 24 * t) := (S.2.1 t h).1
theorem SH.tray_0 (S : SH R) {t : Nat} (h : t < 6) : R (4 + 24 * t) 0 = some (5 + 24 * t) := (S.2.1 t h).2.1
theorem SH.tray_1 (S : SH R) {t : Nat} (h : t < 6) : R (4 + 24 * t) 1 = some (7 + 24 * t) := (S.2.1 t h).2.2.1
theorem SH.tray_2 (S : SH R) {t : Nat} (h : t < 6) : R (4 + 24 * t) 2 = some (8 + 24 * t) := (S.2.1 t h).2.2.2.1
theorem SH.tray_3 (S : SH R) {t : Nat} (h : t < 6) : R (4 + 24 * t) 3 = some (9 + 24 * t) := (S.2.1 t h).2.2.2.2.1
theorem SH.tray_4 (S : SH R) {t : Nat} (h : t < 6) : R (4 + 24 * t) 4 = some (10 + 24 * t) := (S.2.1 t h).2.2.2.2.2.1
theorem SH.tray_5 (S : SH R) {t : Nat} (h : t < 6) : R (4 + 24 * t) 5 = some (11 + 24 * t) := (S.2.1 t h).2.2.2.2.2.2.1
theorem SH.cards_0 (S : SH R) {t : Nat} (h : t < 6) : R (5 + 24 * t) 0 = some (6 + 24 * t) := (S.2.1 t h).2.2.2.2.2.2.2
theorem SH.strs (S : SH R) {t s : Nat} (h : t < 6) (h2 : s < 4) : R (7 + 24 * t) s = some (12 + 24 * t + 4 * s) := (S.2.2.1 t h s h2).1
theorem SH.stripe_2 (S : SH R) {t s : Nat} (h : t < 6) (h2 : s < 4) : R (12 + 24 * t + 4 * s) 2 = some (15 + 24 * t + 4 * s) := (S.2.2.1 t h s h2).2
theorem SH.cks (S : SH R) {c : Nat} (h : c < 5) : R 3 c = some (148 + 12 * c) := (S.2.2.2.1 c h).1
theorem SH.clerk_1 (S : SH R) {c : Nat} (h : c < 5) : R (148 + 12 * c) 1 = some (149 + 12 * c) := (S.2.2.2.1 c h).2.1
theorem SH.clerk_2 (S : SH R) {c : Nat} (h : c < 5) : R (148 + 12 * c) 2 = some (150 + 12 * c) := (S.2.2.2.1 c h).2.2.1
theorem SH.copy_0 (S : SH R) {c : Nat} (h : c < 5) : R (150 + 12 * c) 0 = some (151 + 12 * c) := (S.2.2.2.1 c h).2.2.2
theorem SH.acts (S : SH R) {c i : Nat} (h : c < 5) (h2 : i < 8) : R (149 + 12 * c) i = some (152 + 12 * c + i) := S.2.2.2.2.1 c h i h2
theorem SH.m (S : SH R) (k b : Nat) (h : (k, b) ∈ mrL) : R 223 k = some b := S.2.2.2.2.2 (k, b) h
end SHS
theorem lay_tray {t : Nat} (h : t < 6) : fl_lay (4 + 24 * t) = (8, 12) := by
  have := List.all_eq_true.mp (show ((List.range 6).all fun t => decide (fl_lay (4 + 24 * t) = (8, 12))) = true by decide +kernel) t (List.mem_range.mpr h)
  exact of_decide_eq_true this
theorem lay_cards {t : Nat} (h : t < 6) : fl_lay (5 + 24 * t) = (1, 5) := by
  have := List.all_eq_true.mp (show ((List.range 6).all fun t => decide (fl_lay (5 + 24 * t) = (1, 5))) = true by decide +kernel) t (List.mem_range.mpr h)
  exact of_decide_eq_true this
theorem lay_cells {t : Nat} (h : t < 6) : fl_lay (6 + 24 * t) = (20, 64) := by
  have := List.all_eq_true.mp (show ((List.range 6).all fun t => decide (fl_lay (6 + 24 * t) = (20, 64))) = true by decide +kernel) t (List.mem_range.mpr h)
  exact of_decide_eq_true this
theorem lay_strs {t : Nat} (h : t < 6) : fl_lay (7 + 24 * t) = (37, 4) := by
  have := List.all_eq_true.mp (show ((List.range 6).all fun t => decide (fl_lay (7 + 24 * t) = (37, 4))) = true by decide +kernel) t (List.mem_range.mpr h)
  exact of_decide_eq_true this
theorem lay_own {t : Nat} (h : t < 6) : fl_lay (8 + 24 * t) = (20, 4) := by
  have := List.all_eq_true.mp (show ((List.range 6).all fun t => decide (fl_lay (8 + 24 * t) = (20, 4))) = true by decide +kernel) t (List.mem_range.mpr h)
  exact of_decide_eq_true this
theorem lay_told {t : Nat} (h : t < 6) : fl_lay (9 + 24 * t) = (20, 32) := by
  have := List.all_eq_true.mp (show ((List.range 6).all fun t => decide (fl_lay (9 + 24 * t) = (20, 32))) = true by decide +kernel) t (List.mem_range.mpr h)
  exact of_decide_eq_true this
theorem lay_left {t : Nat} (h : t < 6) : fl_lay (10 + 24 * t) = (20, 32) := by
  have := List.all_eq_true.mp (show ((List.range 6).all fun t => decide (fl_lay (10 + 24 * t) = (20, 32))) = true by decide +kernel) t (List.mem_range.mpr h)
  exact of_decide_eq_true this
theorem lay_listed {t : Nat} (h : t < 6) : fl_lay (11 + 24 * t) = (20, 32) := by
  have := List.all_eq_true.mp (show ((List.range 6).all fun t => decide (fl_lay (11 + 24 * t) = (20, 32))) = true by decide +kernel) t (List.mem_range.mpr h)
  exact of_decide_eq_true this
theorem lay_clerk {c : Nat} (h : c < 5) : fl_lay (148 + 12 * c) = (3, 5) := by
  have := List.all_eq_true.mp (show ((List.range 5).all fun c => decide (fl_lay (148 + 12 * c) = (3, 5))) = true by decide +kernel) c (List.mem_range.mpr h)
  exact of_decide_eq_true this
theorem lay_acts {c : Nat} (h : c < 5) : fl_lay (149 + 12 * c) = (30, 8) := by
  have := List.all_eq_true.mp (show ((List.range 5).all fun c => decide (fl_lay (149 + 12 * c) = (30, 8))) = true by decide +kernel) c (List.mem_range.mpr h)
  exact of_decide_eq_true this
theorem lay_copy {c : Nat} (h : c < 5) : fl_lay (150 + 12 * c) = (1, 5) := by
  have := List.all_eq_true.mp (show ((List.range 5).all fun c => decide (fl_lay (150 + 12 * c) = (1, 5))) = true by decide +kernel) c (List.mem_range.mpr h)
  exact of_decide_eq_true this
theorem lay_ccells {c : Nat} (h : c < 5) : fl_lay (151 + 12 * c) = (20, 64) := by
  have := List.all_eq_true.mp (show ((List.range 5).all fun c => decide (fl_lay (151 + 12 * c) = (20, 64))) = true by decide +kernel) c (List.mem_range.mpr h)
  exact of_decide_eq_true this
theorem lay_stripe {t s : Nat} (h : t < 6) (h2 : s < 4) : fl_lay (12 + 24 * t + 4 * s) = (7, 9) := by
  have := List.all_eq_true.mp (List.all_eq_true.mp (show ((List.range 6).all fun t => (List.range 4).all fun s => decide (fl_lay (12 + 24 * t + 4 * s) = (7, 9))) = true by decide +kernel) t (List.mem_range.mpr h)) s (List.mem_range.mpr h2)
  exact of_decide_eq_true this
theorem lay_sta {t s : Nat} (h : t < 6) (h2 : s < 4) : fl_lay (13 + 24 * t + 4 * s) = (20, 8) := by
  have := List.all_eq_true.mp (List.all_eq_true.mp (show ((List.range 6).all fun t => (List.range 4).all fun s => decide (fl_lay (13 + 24 * t + 4 * s) = (20, 8))) = true by decide +kernel) t (List.mem_range.mpr h)) s (List.mem_range.mpr h2)
  exact of_decide_eq_true this
theorem lay_stb {t s : Nat} (h : t < 6) (h2 : s < 4) : fl_lay (14 + 24 * t + 4 * s) = (20, 8) := by
  have := List.all_eq_true.mp (List.all_eq_true.mp (show ((List.range 6).all fun t => (List.range 4).all fun s => decide (fl_lay (14 + 24 * t + 4 * s) = (20, 8))) = true by decide +kernel) t (List.mem_range.mpr h)) s (List.mem_range.mpr h2)
  exact of_decide_eq_true this
theorem lay_below {t s : Nat} (h : t < 6) (h2 : s < 4) : fl_lay (15 + 24 * t + 4 * s) = (20, 8) := by
  have := List.all_eq_true.mp (List.all_eq_true.mp (show ((List.range 6).all fun t => (List.range 4).all fun s => decide (fl_lay (15 + 24 * t + 4 * s) = (20, 8))) = true by decide +kernel) t (List.mem_range.mpr h)) s (List.mem_range.mpr h2)
  exact of_decide_eq_true this
theorem lay_act {c i : Nat} (h : c < 5) (h2 : i < 8) : fl_lay (152 + 12 * c + i) = (0, 19) := by
  have := List.all_eq_true.mp (List.all_eq_true.mp (show ((List.range 5).all fun c => (List.range 8).all fun i => decide (fl_lay (152 + 12 * c + i) = (0, 19))) = true by decide +kernel) c (List.mem_range.mpr h)) i (List.mem_range.mpr h2)
  exact of_decide_eq_true this
def ushr (x y : Int32) : Int32 := (x.toUInt32 >>> (y.toUInt32 &&& Int32.toUInt32 31)).toInt32
