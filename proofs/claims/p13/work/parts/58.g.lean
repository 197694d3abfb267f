def tys_s154 : List TY := [(2, 31, 0), (0, 0, 0)]
def stys_s154 : List TY := []
theorem chk_s154 : sg_check ([(154, 17), (154, 67), (154, 108), (154, 150), (154, 198)], [], []) 154 0 tys_s154 stys_s154 [(0, (17, 0, 0, 0), (([(2, 1, 31), (1, 0, 0)], [], [(0, 0), (1, 0)], [(1, 31, 42, (1, 0, 0)), (1, 31, 16, (1, 0, 0)), (1, 31, 15, (1, 0, 0))]), [], [(31, (1, 0, 42), (1, 0, 0)), (31, (1, 0, 16), (1, 0, 0)), (31, (1, 0, 15), (1, 0, 0))]))] = true := by decide +kernel
theorem s154 {h : Hp} (hT : TInv h) {ls : List (Option Value)}   (hl : LVs [some (rv 31), none] ls) :
  (∃ (g1 g2 g3 : Hp), (g1 = wr 31 15 0 h) ∧ (g2 = wr 31 16 0 g1) ∧ (g3 = wr 31 42 0 g2) ∧ Nx h g3 ∧ (∃ ls', LVs [some (rv 31), some (iv 0)] ls' ∧ ∀ dd rr, 3 ≤ dd → Ev dd 154 (17, ls', [], g3, fl_tot) rr → Ev dd 154 (0, ls, [], h, fl_tot) rr)) := by
  have H := seg chk_s154 (zs := []) (szs := []) hT (show HB tys_s154 [] from trivial) (show HB stys_s154 [] from trivial) hl
  obtain ⟨tq, hE, hF, k1, ls', k2, k3⟩ := H
  exact ⟨_, _, _, rfl, rfl, rfl, k1, ls', k2, k3⟩
def tys_s154a : List TY := [(2, 31, 0), (1, 0, 40)]
def stys_s154a : List TY := []
theorem chk_s154a : sg_check ([(154, 17), (154, 67), (154, 108), (154, 150), (154, 198)], [], []) 154 17 tys_s154a stys_s154a [(0, (67, 0, 0, 0), (([(2, 1, 31), (1, 0, 0)], [], [(0, 0), (1, 0), (40, 40)], []), [(3, 0, (1, 2, 0), (1, 0, 40), 0)], [])),
 (0, (17, 0, 0, 0), (([(2, 1, 31), (1, 2, 1)], [], [(0, 0), (1, 0), (0, 39), (1, 0), (1, 0), (1, 0), (1, 0), (1, 0)], [(1, 31, 24, (2, 7, 50)), (1, 31, 23, (2, 6, 49)), (1, 31, 22, (2, 5, 48)), (1, 31, 21, (2, 4, 47)), (1, 31, 20, (2, 3, 46))]), [(2, 0, (1, 2, 0), (1, 0, 40), 0)], [(50, (1, 2, 0), (1, 0, -1)), (49, (1, 2, 0), (1, 0, -1)), (48, (1, 2, 0), (1, 0, 0)), (47, (1, 2, 0), (1, 0, 6)), (46, (1, 2, 0), (1, 0, 0))]))] = true := by decide +kernel
theorem s154a {h : Hp} (hT : TInv h) {ls : List (Option Value)} {i : Int} (b_i : 0 ≤ i ∧ i ≤ 40) (hl : LVs [some (rv 31), some (iv i)] ls) :
  ((40 ≤ i ∧ i ≤ 40) ∧ (40 ≤ i) ∧ Nx h h ∧ (∃ ls', LVs [some (rv 31), some (iv 0)] ls' ∧ ∀ dd rr, 3 ≤ dd → Ev dd 154 (67, ls', [], h, fl_tot) rr → Ev dd 154 (17, ls, [], h, fl_tot) rr)) ∨
  (∃ (g1 g2 g3 g4 g5 : Hp), (g1 = wr 46 i 0 h) ∧ (g2 = wr 47 i 6 g1) ∧ (g3 = wr 48 i 0 g2) ∧ (g4 = wr 49 i (-1) g3) ∧ (g5 = wr 50 i (-1) g4) ∧ (0 ≤ i ∧ i ≤ 39) ∧ (i < 40) ∧ Nx h g5 ∧ (∃ ls', LVs [some (rv 31), some (iv (i + 1))] ls' ∧ ∀ dd rr, 3 ≤ dd → Ev dd 154 (17, ls', [], g5, fl_tot) rr → Ev dd 154 (17, ls, [], h, fl_tot) rr)) := by
  have H := seg chk_s154a (zs := [i]) (szs := []) hT (show HB tys_s154a [i] from ⟨b_i, trivial⟩) (show HB stys_s154a [] from trivial) hl
  rcases H with ⟨tq, hE, hF, k1, ls', k2, k3⟩ | ⟨tq, hE, hF, k1, ls', k2, k3⟩
  · exact Or.inl ⟨hE 2 (40, 40) rfl (by decide), hF.1, k1, ls', k2, k3⟩
  · exact Or.inr ⟨_, _, _, _, _, rfl, rfl, rfl, rfl, rfl, hE 2 (0, 39) rfl (by decide), hF.1, k1, ls', k2, k3⟩
def tys_s154b : List TY := [(2, 31, 0), (1, 0, 5)]
def stys_s154b : List TY := []
theorem chk_s154b : sg_check ([(154, 17), (154, 67), (154, 108), (154, 150), (154, 198)], [], []) 154 67 tys_s154b stys_s154b [(0, (108, 0, 0, 0), (([(2, 1, 31), (1, 0, 0)], [], [(0, 0), (1, 0), (5, 5)], []), [(3, 0, (1, 2, 0), (1, 0, 5), 0)], [])),
 (0, (67, 0, 0, 0), (([(2, 1, 31), (1, 2, 1)], [], [(0, 0), (1, 0), (0, 4), (1, 0), (1, 0), (1, 0), (1, 0)], [(1, 31, 33, (2, 6, 59)), (1, 31, 27, (2, 5, 53)), (1, 31, 26, (2, 4, 52)), (1, 31, 25, (2, 3, 51))]), [(2, 0, (1, 2, 0), (1, 0, 5), 0)], [(59, (1, 2, 0), (1, 0, 0)), (53, (1, 2, 0), (1, 0, 0)), (52, (1, 2, 0), (1, 0, 0)), (51, (1, 2, 0), (1, 0, 0))]))] = true := by decide +kernel
theorem s154b {h : Hp} (hT : TInv h) {ls : List (Option Value)} {i : Int} (b_i : 0 ≤ i ∧ i ≤ 5) (hl : LVs [some (rv 31), some (iv i)] ls) :
  ((5 ≤ i ∧ i ≤ 5) ∧ (5 ≤ i) ∧ Nx h h ∧ (∃ ls', LVs [some (rv 31), some (iv 0)] ls' ∧ ∀ dd rr, 3 ≤ dd → Ev dd 154 (108, ls', [], h, fl_tot) rr → Ev dd 154 (67, ls, [], h, fl_tot) rr)) ∨
  (∃ (g1 g2 g3 g4 : Hp), (g1 = wr 51 i 0 h) ∧ (g2 = wr 52 i 0 g1) ∧ (g3 = wr 53 i 0 g2) ∧ (g4 = wr 59 i 0 g3) ∧ (0 ≤ i ∧ i ≤ 4) ∧ (i < 5) ∧ Nx h g4 ∧ (∃ ls', LVs [some (rv 31), some (iv (i + 1))] ls' ∧ ∀ dd rr, 3 ≤ dd → Ev dd 154 (67, ls', [], g4, fl_tot) rr → Ev dd 154 (67, ls, [], h, fl_tot) rr)) := by
  have H := seg chk_s154b (zs := [i]) (szs := []) hT (show HB tys_s154b [i] from ⟨b_i, trivial⟩) (show HB stys_s154b [] from trivial) hl
  rcases H with ⟨tq, hE, hF, k1, ls', k2, k3⟩ | ⟨tq, hE, hF, k1, ls', k2, k3⟩
  · exact Or.inl ⟨hE 2 (5, 5) rfl (by decide), hF.1, k1, ls', k2, k3⟩
  · exact Or.inr ⟨_, _, _, _, rfl, rfl, rfl, rfl, hE 2 (0, 4) rfl (by decide), hF.1, k1, ls', k2, k3⟩
def tys_s154c : List TY := [(2, 31, 0), (1, 0, 24)]
def stys_s154c : List TY := []
theorem chk_s154c : sg_check ([(154, 17), (154, 67), (154, 108), (154, 150), (154, 198)], [], []) 154 108 tys_s154c stys_s154c [(0, (150, 0, 0, 0), (([(2, 1, 31), (1, 0, 0)], [], [(0, 0), (1, 0), (24, 24)], []), [(3, 0, (1, 2, 0), (1, 0, 24), 0)], [])),
 (0, (108, 0, 0, 0), (([(2, 1, 31), (1, 2, 1)], [], [(0, 0), (1, 0), (0, 23), (1, 0), (1, 0), (1, 0), (1, 0)], [(1, 31, 50, (2, 6, 75)), (1, 31, 49, (2, 5, 74)), (1, 31, 46, (2, 4, 71)), (1, 31, 36, (2, 3, 62))]), [(2, 0, (1, 2, 0), (1, 0, 24), 0)], [(75, (1, 2, 0), (1, 0, 0)), (74, (1, 2, 0), (1, 0, 1)), (71, (1, 2, 0), (1, 0, 0)), (62, (1, 2, 0), (1, 0, -1))]))] = true := by decide +kernel
theorem s154c {h : Hp} (hT : TInv h) {ls : List (Option Value)} {i : Int} (b_i : 0 ≤ i ∧ i ≤ 24) (hl : LVs [some (rv 31), some (iv i)] ls) :
  ((24 ≤ i ∧ i ≤ 24) ∧ (24 ≤ i) ∧ Nx h h ∧ (∃ ls', LVs [some (rv 31), some (iv 0)] ls' ∧ ∀ dd rr, 3 ≤ dd → Ev dd 154 (150, ls', [], h, fl_tot) rr → Ev dd 154 (108, ls, [], h, fl_tot) rr)) ∨
  (∃ (g1 g2 g3 g4 : Hp), (g1 = wr 62 i (-1) h) ∧ (g2 = wr 71 i 0 g1) ∧ (g3 = wr 74 i 1 g2) ∧ (g4 = wr 75 i 0 g3) ∧ (0 ≤ i ∧ i ≤ 23) ∧ (i < 24) ∧ Nx h g4 ∧ (∃ ls', LVs [some (rv 31), some (iv (i + 1))] ls' ∧ ∀ dd rr, 3 ≤ dd → Ev dd 154 (108, ls', [], g4, fl_tot) rr → Ev dd 154 (108, ls, [], h, fl_tot) rr)) := by
  have H := seg chk_s154c (zs := [i]) (szs := []) hT (show HB tys_s154c [i] from ⟨b_i, trivial⟩) (show HB stys_s154c [] from trivial) hl
  rcases H with ⟨tq, hE, hF, k1, ls', k2, k3⟩ | ⟨tq, hE, hF, k1, ls', k2, k3⟩
  · exact Or.inl ⟨hE 2 (24, 24) rfl (by decide), hF.1, k1, ls', k2, k3⟩
  · exact Or.inr ⟨_, _, _, _, rfl, rfl, rfl, rfl, hE 2 (0, 23) rfl (by decide), hF.1, k1, ls', k2, k3⟩
def tys_s154d : List TY := [(2, 31, 0), (1, 0, 192)]
def stys_s154d : List TY := []
theorem chk_s154d : sg_check ([(154, 17), (154, 67), (154, 108), (154, 150), (154, 198)], [], []) 154 150 tys_s154d stys_s154d [(0, (198, 0, 0, 0), (([(2, 1, 31), (1, 0, 0)], [], [(0, 0), (1, 0), (192, 192)], []), [(3, 0, (1, 2, 0), (1, 0, 192), 0)], [])),
 (0, (150, 0, 0, 0), (([(2, 1, 31), (1, 2, 1)], [], [(0, 0), (1, 0), (0, 191), (1, 0), (1, 0), (1, 0), (1, 0), (1, 0), (0, 9)], [(1, 31, 12, (2, 7, 42)), (1, 31, 48, (2, 6, 73)), (1, 31, 47, (2, 5, 72)), (1, 31, 40, (2, 4, 66)), (1, 31, 37, (2, 3, 63))]), [(9, 42, (1, 2, 0), (1, 8, 0), 3), (2, 0, (1, 2, 0), (1, 0, 192), 0)], [(73, (1, 2, 0), (1, 8, 0)), (72, (1, 2, 0), (1, 0, 0)), (66, (1, 2, 0), (1, 0, 0)), (63, (1, 2, 0), (1, 0, 0))]))] = true := by decide +kernel
theorem s154d {h : Hp} (hT : TInv h) {ls : List (Option Value)} {i : Int} (b_i : 0 ≤ i ∧ i ≤ 192) (hl : LVs [some (rv 31), some (iv i)] ls) :
  ((192 ≤ i ∧ i ≤ 192) ∧ (192 ≤ i) ∧ Nx h h ∧ (∃ ls', LVs [some (rv 31), some (iv 0)] ls' ∧ ∀ dd rr, 3 ≤ dd → Ev dd 154 (198, ls', [], h, fl_tot) rr → Ev dd 154 (150, ls, [], h, fl_tot) rr)) ∨
  (∃ (throwing8 : Int) (g1 g2 g3 g4 : Hp), (g1 = wr 63 i 0 h) ∧ (g2 = wr 66 i 0 g1) ∧ (g3 = wr 72 i 0 g2) ∧ (g4 = wr 73 i throwing8 g3) ∧ (0 ≤ i ∧ i ≤ 191) ∧ (0 ≤ throwing8 ∧ throwing8 ≤ 9) ∧ (i < 192) ∧ (throwing8 = rd 42 i h) ∧ Nx h g4 ∧ (∃ ls', LVs [some (rv 31), some (iv (i + 1))] ls' ∧ ∀ dd rr, 3 ≤ dd → Ev dd 154 (150, ls', [], g4, fl_tot) rr → Ev dd 154 (150, ls, [], h, fl_tot) rr)) := by
  have H := seg chk_s154d (zs := [i]) (szs := []) hT (show HB tys_s154d [i] from ⟨b_i, trivial⟩) (show HB stys_s154d [] from trivial) hl
  rcases H with ⟨tq, hE, hF, k1, ls', k2, k3⟩ | ⟨tq, hE, hF, k1, ls', k2, k3⟩
  · exact Or.inl ⟨hE 2 (192, 192) rfl (by decide), hF.1, k1, ls', k2, k3⟩
  · exact Or.inr ⟨pn (0 :: (hr tys_s154d [i] ++ (hr stys_s154d [] ++ tq))) 8, _, _, _, _, rfl, rfl, rfl, rfl, hE 2 (0, 191) rfl (by decide), hE 8 (0, 9) rfl (by decide), hF.2.1, Eq.trans (hF.1) ((rd_k rfl _ _ _ _).trans ((rd_k rfl _ _ _ _).trans (rd_k rfl _ _ _ _))), k1, ls', k2, k3⟩
def tys_s154e : List TY := [(2, 31, 0), (1, 0, 6)]
def stys_s154e : List TY := []
theorem chk_s154e : sg_check ([(154, 17), (154, 67), (154, 108), (154, 150), (154, 198)], [], []) 154 198 tys_s154e stys_s154e [(2, (0, 0, 0, 0), (([(2, 1, 31), (1, 2, 0)], [], [(0, 0), (1, 0), (6, 6)], []), [(3, 0, (1, 2, 0), (1, 0, 6), 0)], [])),
 (0, (198, 0, 0, 0), (([(2, 1, 31), (1, 2, 1)], [], [(0, 0), (1, 0), (0, 5), (1, 0), (1, 0), (1, 0), (1, 0), (1, 0), (1, 0)], [(1, 31, 55, (2, 8, 80)), (1, 31, 54, (2, 7, 79)), (1, 31, 53, (2, 6, 78)), (1, 31, 52, (2, 5, 77)), (1, 31, 45, (2, 4, 70)), (1, 31, 44, (2, 3, 69))]), [(2, 0, (1, 2, 0), (1, 0, 6), 0)], [(80, (1, 2, 0), (1, 0, 0)), (79, (1, 2, 0), (1, 0, 0)), (78, (1, 2, 0), (1, 0, 0)), (77, (1, 2, 0), (1, 0, 0)), (70, (1, 2, 0), (1, 0, 0)), (69, (1, 2, 0), (1, 0, 0))]))] = true := by decide +kernel
theorem s154e {h : Hp} (hT : TInv h) {ls : List (Option Value)} {i : Int} (b_i : 0 ≤ i ∧ i ≤ 6) (hl : LVs [some (rv 31), some (iv i)] ls) :
  ((6 ≤ i ∧ i ≤ 6) ∧ (6 ≤ i) ∧ Nx h h ∧ (∀ dd, 3 ≤ dd → Ev dd 154 (198, ls, [], h, fl_tot) (none, h, fl_tot))) ∨
  (∃ (g1 g2 g3 g4 g5 g6 : Hp), (g1 = wr 69 i 0 h) ∧ (g2 = wr 70 i 0 g1) ∧ (g3 = wr 77 i 0 g2) ∧ (g4 = wr 78 i 0 g3) ∧ (g5 = wr 79 i 0 g4) ∧ (g6 = wr 80 i 0 g5) ∧ (0 ≤ i ∧ i ≤ 5) ∧ (i < 6) ∧ Nx h g6 ∧ (∃ ls', LVs [some (rv 31), some (iv (i + 1))] ls' ∧ ∀ dd rr, 3 ≤ dd → Ev dd 154 (198, ls', [], g6, fl_tot) rr → Ev dd 154 (198, ls, [], h, fl_tot) rr)) := by
  have H := seg chk_s154e (zs := [i]) (szs := []) hT (show HB tys_s154e [i] from ⟨b_i, trivial⟩) (show HB stys_s154e [] from trivial) hl
  rcases H with ⟨tq, hE, hF, k1, k2⟩ | ⟨tq, hE, hF, k1, ls', k2, k3⟩
  · exact Or.inl ⟨hE 2 (6, 6) rfl (by decide), hF.1, k1, k2⟩
  · exact Or.inr ⟨_, _, _, _, _, _, rfl, rfl, rfl, rfl, rfl, rfl, hE 2 (0, 5) rfl (by decide), hF.1, k1, ls', k2, k3⟩
