def tys_s153 : List TY := [(2, 31, 0), (0, 0, 0), (0, 0, 0)]
def stys_s153 : List TY := []
theorem chk_s153 : sg_check ([], [], []) 153 0 tys_s153 stys_s153 [(1, (154, 2, 1, 4), (([(2, 1, 31), (0, 0, 0), (0, 0, 0)], [(2, 1, 31)], [(0, 0), (1, 0)], []), [], []))] = true := by decide +kernel
theorem s153 {h : Hp} (hT : TInv h) {ls : List (Option Value)}   (hl : LVs [some (rv 31), none, none] ls) :
  (Nx h h ∧ (∃ ls', LVs [some (rv 31), none, none] ls' ∧ ∀ dd vv hh rr, 2 ≤ dd → Ev dd 154 (0, fl_enter 2 [rv 31], [], h, fl_tot) (vv, hh, fl_tot) → Ev (dd + 1) 153 (4, ls', vv.toList ++ [], hh, fl_tot) rr → Ev (dd + 1) 153 (0, ls, [], h, fl_tot) rr)) := by
  have H := seg chk_s153 (zs := []) (szs := []) hT (show HB tys_s153 [] from trivial) (show HB stys_s153 [] from trivial) hl
  obtain ⟨tq, hE, hF, k1, ls', k2, k3⟩ := H
  exact ⟨k1, ls', k2, k3⟩
def tys_s153a : List TY := [(2, 31, 0), (0, 0, 0), (0, 0, 0)]
def stys_s153a : List TY := []
theorem chk_s153a : sg_check ([], [], []) 153 4 tys_s153a stys_s153a [(1, (155, 2, 1, 8), (([(2, 1, 31), (0, 0, 0), (0, 0, 0)], [(2, 1, 31)], [(0, 0), (1, 0)], []), [], []))] = true := by decide +kernel
theorem s153a {h : Hp} (hT : TInv h) {ls : List (Option Value)}   (hl : LVs [some (rv 31), none, none] ls) :
  (Nx h h ∧ (∃ ls', LVs [some (rv 31), none, none] ls' ∧ ∀ dd vv hh rr, 2 ≤ dd → Ev dd 155 (0, fl_enter 2 [rv 31], [], h, fl_tot) (vv, hh, fl_tot) → Ev (dd + 1) 153 (8, ls', vv.toList ++ [], hh, fl_tot) rr → Ev (dd + 1) 153 (4, ls, [], h, fl_tot) rr)) := by
  have H := seg chk_s153a (zs := []) (szs := []) hT (show HB tys_s153a [] from trivial) (show HB stys_s153a [] from trivial) hl
  obtain ⟨tq, hE, hF, k1, ls', k2, k3⟩ := H
  exact ⟨k1, ls', k2, k3⟩
def tys_s153b : List TY := [(2, 31, 0), (0, 0, 0), (0, 0, 0)]
def stys_s153b : List TY := [(1, -1, 4)]
theorem chk_s153b : sg_check ([(153, 9)], [], []) 153 8 tys_s153b stys_s153b [(0, (9, 0, 0, 0), (([(2, 1, 31), (1, 2, 0), (0, 0, 0)], [], [(0, 0), (1, 0), (-1, 4)], []), [], []))] = true := by decide +kernel
theorem s153b {h : Hp} (hT : TInv h) {ls : List (Option Value)} {v : Int} (b_v : -1 ≤ v ∧ v ≤ 4) (hl : LVs [some (rv 31), none, none] ls) :
  (Nx h h ∧ (∃ ls', LVs [some (rv 31), some (iv v), none] ls' ∧ ∀ dd rr, 3 ≤ dd → Ev dd 153 (9, ls', [], h, fl_tot) rr → Ev dd 153 (8, ls, [iv v], h, fl_tot) rr)) := by
  have H := seg chk_s153b (zs := []) (szs := [v]) hT (show HB tys_s153b [] from trivial) (show HB stys_s153b [v] from ⟨b_v, trivial⟩) hl
  obtain ⟨tq, hE, hF, k1, ls', k2, k3⟩ := H
  exact ⟨k1, ls', k2, k3⟩
def tys_s153l : List TY := [(2, 31, 0), (1, -1, 4), (0, 0, 0)]
def stys_s153l : List TY := []
theorem chk_s153l : sg_check ([], [], [(153, 32, -1, 4)]) 153 9 tys_s153l stys_s153l [(1, (178, 2, 1, 77), (([(2, 1, 31), (1, 2, 0), (0, 0, 0)], [(2, 1, 31), (2, 1, 31)], [(0, 0), (1, 0), (-1, -1)], []), [(0, 0, (1, 2, 0), (1, 0, -1), 0)], [])),
 (1, (178, 2, 1, 77), (([(2, 1, 31), (1, 2, 0), (0, 0, 0)], [(2, 1, 31), (2, 1, 31)], [(0, 0), (1, 0), (0, 4), (600, 600)], [(1, 31, 15, (1, 3, 0))]), [(3, 0, (1, 3, 0), (1, 0, 600), 0), (9, 31, (1, 0, 15), (1, 3, 0), 0), (1, 0, (1, 2, 0), (1, 0, -1), 0)], [])),
 (1, (158, 6, 2, 64), (([(2, 1, 31), (1, 2, 0), (1, 5, 0)], [(1, 2, 0), (2, 1, 31)], [(0, 0), (1, 0), (0, 4), (0, 599), (1, 0), (-1, -1)], [(1, 31, 11, (2, 4, 41)), (1, 31, 15, (1, 3, 0))]), [(0, 0, (1, 5, 0), (1, 0, -1), 0), (9, 41, (1, 3, 0), (1, 5, 0), 0), (9, 31, (1, 0, 15), (1, 3, 0), 0), (2, 0, (1, 3, 0), (1, 0, 600), 0), (9, 31, (1, 0, 15), (1, 3, 0), 0), (1, 0, (1, 2, 0), (1, 0, -1), 0)], [])),
 (1, (158, 6, 2, 64), (([(2, 1, 31), (1, 2, 0), (1, 5, 0)], [(1, 2, 0), (2, 1, 31)], [(0, 0), (1, 0), (0, 4), (0, 599), (1, 0), (0, 4), (0, 4)], [(1, 31, 4, (1, 6, 0)), (1, 31, 11, (2, 4, 41)), (1, 31, 15, (1, 3, 0))]), [(3, 0, (1, 5, 0), (1, 6, 0), 0), (9, 31, (1, 0, 4), (1, 6, 0), 0), (1, 0, (1, 5, 0), (1, 0, -1), 0), (9, 41, (1, 3, 0), (1, 5, 0), 0), (9, 31, (1, 0, 15), (1, 3, 0), 0), (2, 0, (1, 3, 0), (1, 0, 600), 0), (9, 31, (1, 0, 15), (1, 3, 0), 0), (1, 0, (1, 2, 0), (1, 0, -1), 0)], [])),
 (1, (156, 5, 2, 53), (([(2, 1, 31), (1, 2, 0), (1, 5, 0)], [(1, 5, 0), (2, 1, 31), (2, 1, 31)], [(0, 0), (1, 0), (0, 4), (0, 599), (1, 0), (0, 4), (1, 5)], [(1, 31, 4, (1, 6, 0)), (1, 31, 11, (2, 4, 41)), (1, 31, 15, (1, 3, 0))]), [(2, 0, (1, 5, 0), (1, 6, 0), 0), (9, 31, (1, 0, 4), (1, 6, 0), 0), (1, 0, (1, 5, 0), (1, 0, -1), 0), (9, 41, (1, 3, 0), (1, 5, 0), 0), (9, 31, (1, 0, 15), (1, 3, 0), 0), (2, 0, (1, 3, 0), (1, 0, 600), 0), (9, 31, (1, 0, 15), (1, 3, 0), 0), (1, 0, (1, 2, 0), (1, 0, -1), 0)], []))] = true := by decide +kernel
theorem s153l {h : Hp} (hT : TInv h) {ls : List (Option Value)} {c : Int} (b_c : -1 ≤ c ∧ c ≤ 4) (hl : LVs [some (rv 31), some (iv c), none] ls) :
  ((-1 ≤ c ∧ c ≤ -1) ∧ (c = -1) ∧ Nx h h ∧ (∃ ls', LVs [some (rv 31), some (iv c), none] ls' ∧ ∀ dd vv hh rr, 2 ≤ dd → Ev dd 178 (0, fl_enter 2 [rv 31], [], h, fl_tot) (vv, hh, fl_tot) → Ev (dd + 1) 153 (77, ls', vv.toList ++ [rv 31], hh, fl_tot) rr → Ev (dd + 1) 153 (9, ls, [], h, fl_tot) rr)) ∨
  (∃ (steps3 : Int) , (0 ≤ c ∧ c ≤ 4) ∧ (600 ≤ steps3 ∧ steps3 ≤ 600) ∧ (c ≠ -1) ∧ (steps3 = rd 31 15 h) ∧ (600 ≤ steps3) ∧ Nx h h ∧ (∃ ls', LVs [some (rv 31), some (iv c), none] ls' ∧ ∀ dd vv hh rr, 2 ≤ dd → Ev dd 178 (0, fl_enter 2 [rv 31], [], h, fl_tot) (vv, hh, fl_tot) → Ev (dd + 1) 153 (77, ls', vv.toList ++ [rv 31], hh, fl_tot) rr → Ev (dd + 1) 153 (9, ls, [], h, fl_tot) rr)) ∨
  (∃ (steps3 baton5 : Int) , (0 ≤ c ∧ c ≤ 4) ∧ (0 ≤ steps3 ∧ steps3 ≤ 599) ∧ (-1 ≤ baton5 ∧ baton5 ≤ -1) ∧ (c ≠ -1) ∧ (steps3 = rd 31 15 h) ∧ (steps3 < 600) ∧ (steps3 = rd 31 15 h) ∧ (baton5 = rd 41 steps3 h) ∧ (baton5 = -1) ∧ Nx h h ∧ (∃ ls', LVs [some (rv 31), some (iv c), some (iv baton5)] ls' ∧ ∀ dd vv hh rr, 2 ≤ dd → Ev dd 158 (0, fl_enter 6 [rv 31, iv c], [], h, fl_tot) (vv, hh, fl_tot) → Ev (dd + 1) 153 (64, ls', vv.toList ++ [], hh, fl_tot) rr → Ev (dd + 1) 153 (9, ls, [], h, fl_tot) rr)) ∨
  (∃ (steps3 baton5 clerks6 : Int) , (0 ≤ c ∧ c ≤ 4) ∧ (0 ≤ steps3 ∧ steps3 ≤ 599) ∧ (0 ≤ baton5 ∧ baton5 ≤ 4) ∧ (0 ≤ clerks6 ∧ clerks6 ≤ 4) ∧ (c ≠ -1) ∧ (steps3 = rd 31 15 h) ∧ (steps3 < 600) ∧ (steps3 = rd 31 15 h) ∧ (baton5 = rd 41 steps3 h) ∧ (baton5 ≠ -1) ∧ (clerks6 = rd 31 4 h) ∧ (clerks6 ≤ baton5) ∧ Nx h h ∧ (∃ ls', LVs [some (rv 31), some (iv c), some (iv baton5)] ls' ∧ ∀ dd vv hh rr, 2 ≤ dd → Ev dd 158 (0, fl_enter 6 [rv 31, iv c], [], h, fl_tot) (vv, hh, fl_tot) → Ev (dd + 1) 153 (64, ls', vv.toList ++ [], hh, fl_tot) rr → Ev (dd + 1) 153 (9, ls, [], h, fl_tot) rr)) ∨
  (∃ (steps3 baton5 clerks6 : Int) , (0 ≤ c ∧ c ≤ 4) ∧ (0 ≤ steps3 ∧ steps3 ≤ 599) ∧ (0 ≤ baton5 ∧ baton5 ≤ 4) ∧ (1 ≤ clerks6 ∧ clerks6 ≤ 5) ∧ (c ≠ -1) ∧ (steps3 = rd 31 15 h) ∧ (steps3 < 600) ∧ (steps3 = rd 31 15 h) ∧ (baton5 = rd 41 steps3 h) ∧ (baton5 ≠ -1) ∧ (clerks6 = rd 31 4 h) ∧ (baton5 < clerks6) ∧ Nx h h ∧ (∃ ls', LVs [some (rv 31), some (iv c), some (iv baton5)] ls' ∧ ∀ dd vv hh rr, 2 ≤ dd → Ev dd 156 (0, fl_enter 5 [rv 31, iv baton5], [], h, fl_tot) (vv, hh, fl_tot) → Ev (dd + 1) 153 (53, ls', vv.toList ++ [rv 31], hh, fl_tot) rr → Ev (dd + 1) 153 (9, ls, [], h, fl_tot) rr)) := by
  have H := seg chk_s153l (zs := [c]) (szs := []) hT (show HB tys_s153l [c] from ⟨b_c, trivial⟩) (show HB stys_s153l [] from trivial) hl
  rcases H with ⟨tq, hE, hF, k1, ls', k2, k3⟩ | ⟨tq, hE, hF, k1, ls', k2, k3⟩ | ⟨tq, hE, hF, k1, ls', k2, k3⟩ | ⟨tq, hE, hF, k1, ls', k2, k3⟩ | ⟨tq, hE, hF, k1, ls', k2, k3⟩
  · exact Or.inl ⟨hE 2 (-1, -1) rfl (by decide), hF.1, k1, ls', k2, k3⟩
  · exact Or.inr (Or.inl ⟨pn (0 :: (hr tys_s153l [c] ++ (hr stys_s153l [] ++ tq))) 3, hE 2 (0, 4) rfl (by decide), hE 3 (600, 600) rfl (by decide), hF.2.2.1, hF.2.1, hF.1, k1, ls', k2, k3⟩)
  · exact Or.inr (Or.inr (Or.inl ⟨pn (0 :: (hr tys_s153l [c] ++ (hr stys_s153l [] ++ tq))) 3, pn (0 :: (hr tys_s153l [c] ++ (hr stys_s153l [] ++ tq))) 5, hE 2 (0, 4) rfl (by decide), hE 3 (0, 599) rfl (by decide), hE 5 (-1, -1) rfl (by decide), hF.2.2.2.2.2.1, hF.2.2.2.2.1, hF.2.2.2.1, hF.2.2.1, hF.2.1, hF.1, k1, ls', k2, k3⟩))
  · exact Or.inr (Or.inr (Or.inr (Or.inl ⟨pn (0 :: (hr tys_s153l [c] ++ (hr stys_s153l [] ++ tq))) 3, pn (0 :: (hr tys_s153l [c] ++ (hr stys_s153l [] ++ tq))) 5, pn (0 :: (hr tys_s153l [c] ++ (hr stys_s153l [] ++ tq))) 6, hE 2 (0, 4) rfl (by decide), hE 3 (0, 599) rfl (by decide), hE 5 (0, 4) rfl (by decide), hE 6 (0, 4) rfl (by decide), hF.2.2.2.2.2.2.2.1, hF.2.2.2.2.2.2.1, hF.2.2.2.2.2.1, hF.2.2.2.2.1, hF.2.2.2.1, hF.2.2.1, hF.2.1, hF.1, k1, ls', k2, k3⟩)))
  · exact Or.inr (Or.inr (Or.inr (Or.inr ⟨pn (0 :: (hr tys_s153l [c] ++ (hr stys_s153l [] ++ tq))) 3, pn (0 :: (hr tys_s153l [c] ++ (hr stys_s153l [] ++ tq))) 5, pn (0 :: (hr tys_s153l [c] ++ (hr stys_s153l [] ++ tq))) 6, hE 2 (0, 4) rfl (by decide), hE 3 (0, 599) rfl (by decide), hE 5 (0, 4) rfl (by decide), hE 6 (1, 5) rfl (by decide), hF.2.2.2.2.2.2.2.1, hF.2.2.2.2.2.2.1, hF.2.2.2.2.2.1, hF.2.2.2.2.1, hF.2.2.2.1, hF.2.2.1, hF.2.1, hF.1, k1, ls', k2, k3⟩)))
def tys_s153c : List TY := [(2, 31, 0), (1, 0, 4), (1, 0, 4)]
def stys_s153c : List TY := [(1, 0, 1), (2, 31, 0)]
theorem chk_s153c : sg_check ([], [], []) 153 53 tys_s153c stys_s153c [(1, (158, 6, 2, 64), (([(2, 1, 31), (1, 2, 0), (1, 3, 0)], [(1, 2, 0), (2, 5, 31)], [(0, 0), (1, 0), (0, 4), (0, 4), (0, 0), (1, 0)], []), [(0, 0, (1, 4, 0), (1, 0, 0), 0)], [])),
 (1, (158, 6, 2, 64), (([(2, 1, 31), (1, 2, 0), (1, 3, 0)], [(1, 3, 0), (2, 5, 31)], [(0, 0), (1, 0), (0, 4), (0, 4), (1, 1), (1, 0)], []), [(1, 0, (1, 4, 0), (1, 0, 0), 0)], []))] = true := by decide +kernel
theorem s153c {h : Hp} (hT : TInv h) {ls : List (Option Value)} {c : Int} {nm : Int} {b : Int} (b_c : 0 ≤ c ∧ c ≤ 4) (b_nm : 0 ≤ nm ∧ nm ≤ 4) (b_b : 0 ≤ b ∧ b ≤ 1) (hl : LVs [some (rv 31), some (iv c), some (iv nm)] ls) :
  ((0 ≤ b ∧ b ≤ 0) ∧ (b = 0) ∧ Nx h h ∧ (∃ ls', LVs [some (rv 31), some (iv c), some (iv nm)] ls' ∧ ∀ dd vv hh rr, 2 ≤ dd → Ev dd 158 (0, fl_enter 6 [rv 31, iv c], [], h, fl_tot) (vv, hh, fl_tot) → Ev (dd + 1) 153 (64, ls', vv.toList ++ [], hh, fl_tot) rr → Ev (dd + 1) 153 (53, ls, [iv b, rv 31], h, fl_tot) rr)) ∨
  ((1 ≤ b ∧ b ≤ 1) ∧ (b ≠ 0) ∧ Nx h h ∧ (∃ ls', LVs [some (rv 31), some (iv c), some (iv nm)] ls' ∧ ∀ dd vv hh rr, 2 ≤ dd → Ev dd 158 (0, fl_enter 6 [rv 31, iv nm], [], h, fl_tot) (vv, hh, fl_tot) → Ev (dd + 1) 153 (64, ls', vv.toList ++ [], hh, fl_tot) rr → Ev (dd + 1) 153 (53, ls, [iv b, rv 31], h, fl_tot) rr)) := by
  have H := seg chk_s153c (zs := [c, nm]) (szs := [b]) hT (show HB tys_s153c [c, nm] from ⟨b_c, ⟨b_nm, trivial⟩⟩) (show HB stys_s153c [b] from ⟨b_b, trivial⟩) hl
  rcases H with ⟨tq, hE, hF, k1, ls', k2, k3⟩ | ⟨tq, hE, hF, k1, ls', k2, k3⟩
  · exact Or.inl ⟨hE 4 (0, 0) rfl (by decide), hF.1, k1, ls', k2, k3⟩
  · exact Or.inr ⟨hE 4 (1, 1) rfl (by decide), hF.1, k1, ls', k2, k3⟩
def tys_s153d : List TY := [(2, 31, 0), (1, 0, 4), (0, 0, 0)]
def stys_s153d : List TY := []
theorem chk_s153d : sg_check ([], [], []) 153 64 tys_s153d stys_s153d [(1, (155, 2, 1, 68), (([(2, 1, 31), (1, 2, 0), (0, 0, 0)], [(2, 1, 31)], [(0, 0), (1, 0), (0, 4)], []), [], []))] = true := by decide +kernel
theorem s153d {h : Hp} (hT : TInv h) {ls : List (Option Value)} {c : Int} (b_c : 0 ≤ c ∧ c ≤ 4) (hl : LVs [some (rv 31), some (iv c), none] ls) :
  (Nx h h ∧ (∃ ls', LVs [some (rv 31), some (iv c), none] ls' ∧ ∀ dd vv hh rr, 2 ≤ dd → Ev dd 155 (0, fl_enter 2 [rv 31], [], h, fl_tot) (vv, hh, fl_tot) → Ev (dd + 1) 153 (68, ls', vv.toList ++ [], hh, fl_tot) rr → Ev (dd + 1) 153 (64, ls, [], h, fl_tot) rr)) := by
  have H := seg chk_s153d (zs := [c]) (szs := []) hT (show HB tys_s153d [c] from ⟨b_c, trivial⟩) (show HB stys_s153d [] from trivial) hl
  obtain ⟨tq, hE, hF, k1, ls', k2, k3⟩ := H
  exact ⟨k1, ls', k2, k3⟩
def tys_s153e : List TY := [(2, 31, 0), (1, 0, 4), (0, 0, 0)]
def stys_s153e : List TY := [(1, -1, 4)]
theorem chk_s153e : sg_check ([(153, 9)], [], []) 153 68 tys_s153e stys_s153e [(0, (9, 0, 0, 0), (([(2, 1, 31), (1, 3, 0), (0, 0, 0)], [], [(0, 0), (1, 0), (0, 4), (-1, 4)], []), [], []))] = true := by decide +kernel
theorem s153e {h : Hp} (hT : TInv h) {ls : List (Option Value)} {c : Int} {v : Int} (b_c : 0 ≤ c ∧ c ≤ 4) (b_v : -1 ≤ v ∧ v ≤ 4) (hl : LVs [some (rv 31), some (iv c), none] ls) :
  (Nx h h ∧ (∃ ls', LVs [some (rv 31), some (iv v), none] ls' ∧ ∀ dd rr, 3 ≤ dd → Ev dd 153 (9, ls', [], h, fl_tot) rr → Ev dd 153 (68, ls, [iv v], h, fl_tot) rr)) := by
  have H := seg chk_s153e (zs := [c]) (szs := [v]) hT (show HB tys_s153e [c] from ⟨b_c, trivial⟩) (show HB stys_s153e [v] from ⟨b_v, trivial⟩) hl
  obtain ⟨tq, hE, hF, k1, ls', k2, k3⟩ := H
  exact ⟨k1, ls', k2, k3⟩
def tys_s153f : List TY := [(2, 31, 0), (0, 0, 0), (0, 0, 0)]
def stys_s153f : List TY := [(1, 0, 2), (2, 31, 0)]
theorem chk_s153f : sg_check ([], [], []) 153 77 tys_s153f stys_s153f [(2, (0, 0, 0, 0), (([(2, 1, 31), (0, 0, 0), (0, 0, 0)], [(1, 4, 0)], [(0, 0), (1, 0), (0, 2), (1, 0), (0, 2)], [(1, 31, 14, (1, 4, 0)), (1, 31, 13, (1, 0, 1)), (3, 31, 14, (1, 2, 0))]), [(9, 31, (1, 0, 14), (1, 4, 0), 2)], [(31, (1, 0, 13), (1, 0, 1)), (31, (1, 0, 14), (1, 2, 0))]))] = true := by decide +kernel
theorem s153f {h : Hp} (hT : TInv h) {ls : List (Option Value)} {v : Int} (b_v : 0 ≤ v ∧ v ≤ 2) (hl : LVs [some (rv 31), none, none] ls) :
  (∃ (ended4 : Int) (g1 g2 : Hp), (g1 = wr 31 14 v h) ∧ (g2 = wr 31 13 1 g1) ∧ (0 ≤ ended4 ∧ ended4 ≤ 2) ∧ (ended4 = rd 31 14 g1) ∧ Nx h g2 ∧ (∀ dd, 3 ≤ dd → Ev dd 153 (77, ls, [iv v, rv 31], h, fl_tot) (some (iv ended4), g2, fl_tot))) := by
  have H := seg chk_s153f (zs := []) (szs := [v]) hT (show HB tys_s153f [] from trivial) (show HB stys_s153f [v] from ⟨b_v, trivial⟩) hl
  obtain ⟨tq, hE, hF, k1, k2⟩ := H
  exact ⟨pn (0 :: (hr tys_s153f [] ++ (hr stys_s153f [v] ++ tq))) 4, _, _, rfl, rfl, hE 4 (0, 2) rfl (by decide), Eq.trans (hF.1) (rd_ne (i := 14) (j := 13) (by decide) (by decide) (by decide)), k1, k2⟩
