/-! the first place at which a predicate holds, as an int -/
def mFind (P : Nat → Bool) : Nat → Nat → Int32 | 0, _ => -1 | j + 1, k => if P k then nI k else mFind P j (k + 1)
theorem mFind_n {P : Nat → Bool} {N k : Nat} (hk : k < N) (h : P k = false) : mFind P (N - k) k = mFind P (N - (k + 1)) (k + 1) := by
  rw [show N - k = (N - (k + 1)) + 1 by omega]
  simp [mFind, h]
theorem mFind_y {P : Nat → Bool} {N k : Nat} (hk : k < N) (h : P k = true) : mFind P (N - k) k = nI k := by
  rw [show N - k = (N - (k + 1)) + 1 by omega]
  simp [mFind, h]

