/-! every contract of the class's methods holds -/
theorem cv_below : ∀ (n i : Nat) (c : CT), i < n → ab_cts[i]? = some c → CV c := by
  intro n
  induction n with
  | zero => intro i c h; omega
  | succ n ih =>
    intro i c hi hc
    have hcv : ∀ (j : Nat) (cc : CT), j < i → ab_cts[j]? = some cc → CV cc := fun j cc hj h => ih j cc (by omega) h
    have hlen : i < 148 := by
      have := (List.getElem?_eq_some_iff.mp hc).1
      exact this
    rcases ab_all hlen with h | h
    · rcases List.mem_cons.mp h with rfl | h
      · cases hc
        exact cv_nextStep
      · obtain rfl := List.mem_singleton.mp h
        cases hc
        exact cv_see (hcv 138 _ (by decide) rfl)
    · unfold ab_ck at h
      split at h
      · exact chk_ok hc hcv h
      · cases h
theorem cv_all {i : Nat} {c : CT} (h : ab_cts[i]? = some c) : CV c := cv_below (i + 1) i c (Nat.lt_succ_self _) h
