theorem tc_len (st t : Nat → Int32) (m n k : Nat) : mTcF st t m n k (47 + 11 * m) = nI n := by
  induction k with
  | zero => exact upd_at
  | succ k ih =>
    show upd _ _ _ (47 + 11 * m) = _
    rw [upd_no (by omega)]; exact ih
theorem tc_note (st t : Nat → Int32) (m n k i : Nat) (h : i < k) : mTcF st t m n k (47 + 11 * m + (3 + i)) = if i < n then t i else nI 0 := by
  induction k with
  | zero => omega
  | succ k ih =>
    show upd _ _ _ (47 + 11 * m + (3 + i)) = _
    by_cases hi : i = k
    · subst hi; exact upd_at
    · rw [upd_no (by omega)]; exact ih (by omega)
theorem tc_no (st t : Nat → Int32) (m n k j : Nat) (h0 : j ≠ 47 + 11 * m) (h : j < 47 + 11 * m + 3 ∨ 47 + 11 * m + 3 + k ≤ j) : mTcF st t m n k j = st j := by
  induction k with
  | zero => exact upd_no h0
  | succ k ih =>
    show upd _ _ _ j = _
    rw [upd_no (by omega)]; exact ih (by omega)
theorem RS.forget {B : Nat} {S : Nat → Nat → Int32} {st : Nat → Int32} (hR : RS S st) (hI : SI B S) {m : Nat} (hm : m < 20) (t : Nat → Int32) : RS (sa S 6 (upd (S 6) m (nI 0))) (mTcF st t m 0 8) := by
  obtain ⟨a, b, c, d, e, f, g, i, j⟩ := hR
  have hn : ∀ q, q < 47 + 11 * m → mTcF st t m 0 8 q = st q := fun q hq => tc_no st t m 0 8 q (by omega) (by omega)
  refine ⟨?_, fun r hr => ?_, fun o ho => ?_, fun o k ho hk => ?_, fun k hk => ?_, fun k hk => ?_, fun o i ho hi => ?_, fun r hr => ?_, ?_⟩
  · simp (disch := omega) only [sa_ne, hn]; exact a
  · simp (disch := omega) only [sa_ne, hn]; exact b r hr
  · obtain ⟨c1, c2, c3⟩ := c o ho
    rw [sa_at, sa_ne (j := 9) (by decide), sa_ne (j := 10) (by decide), tc_no st t m 0 8 (47 + 11 * o + 1) (by omega) (by omega), tc_no st t m 0 8 (47 + 11 * o + 2) (by omega) (by omega)]
    refine ⟨?_, c2, c3⟩
    by_cases h : o = m
    · rw [h, upd_at, tc_len]
    · rw [upd_no h, tc_no st t m 0 8 (47 + 11 * o) (by omega) (by omega)]; exact c1
  · rw [sa_at] at hk
    rw [sa_ne (j := 7) (by decide)]
    by_cases h : o = m
    · rw [h, upd_at, nOf_n (by decide)] at hk; omega
    · rw [upd_no h] at hk
      have h8 := (hI.2.2.2.2.2.2.1 o ho).1.2.1
      rw [tc_no st t m 0 8 (47 + 11 * o + (3 + k)) (by omega) (by omega)]; exact d o k ho hk
  · simp (disch := omega) only [sa_ne, hn]; exact e k hk
  · simp (disch := omega) only [sa_ne, hn]; exact f k hk
  · simp (disch := omega) only [sa_ne, hn]; exact g o i ho hi
  · simp (disch := omega) only [sa_ne, hn]; exact i r hr
  · simp (disch := omega) only [sa_ne, hn]; exact j
theorem SI.forget {B : Nat} {S : Nat → Nat → Int32} (hI : SI B S) (m : Nat) : SI B (sa S 6 (upd (S 6) m (nI 0))) := by
  obtain ⟨a0, a1, a2, a3, a4, a5, g, i, j⟩ := hI
  refine ⟨a0, a1, a2, a3, a4, a5, fun q hq => ?_, i, fun q o hq ho hqo h0 hs => ?_⟩
  · obtain ⟨g1, g2, g3⟩ := g q hq
    rw [sa_at, sa_ne (j := 8) (by decide), sa_ne (j := 7) (by decide)]
    by_cases h : q = m
    · rw [h, upd_at, nOf_n (by decide)]
      rw [h] at g2
      exact ⟨⟨rfl, by decide, by decide⟩, g2, fun k hk => by omega⟩
    · rw [upd_no h]; exact ⟨g1, g2, g3⟩
  · rw [sa_at] at h0
    unfold sameSh at hs
    rw [sa_at, sa_ne (j := 7) (by decide)] at hs
    by_cases h : q = m
    · rw [h, upd_at, nOf_n (by decide)] at h0; omega
    · rw [upd_no h] at h0 hs
      by_cases h2 : o = m
      · rw [h2, upd_at, nOf_n (by decide)] at hs
        omega
      · rw [upd_no h2] at hs
        exact j q o hq ho hqo h0 hs

