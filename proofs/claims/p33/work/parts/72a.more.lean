/-! more of the reference's pure rows -/
theorem rpS_st {f : Nat} {t : Nat → Int32} {n k : Nat} (h : 8 < (rpS f t n k).2) : ∀ j : Nat, k ≤ j → rpS f t n j = rpS f t n k := by
  intro j hj
  induction j with
  | zero => obtain rfl : k = 0 := by omega
            rfl
  | succ j ih =>
    rcases Nat.lt_or_ge j k with q | q
    · obtain rfl : k = j + 1 := by omega
      rfl
    · have h1 := ih q
      simp only [rpS]
      rw [h1, if_neg (by omega)]
