theorem rif_0 (st : Nat → Int32) (k : Nat) : mRiF st k 0 = st 0 + nI 1 := by
  induction k with
  | zero => exact upd_at
  | succ k ih =>
    show upd _ _ _ 0 = _
    rw [upd_no (by omega), upd_no (by omega), ih]
theorem rif_s (st : Nat → Int32) (k j : Nat) : mRiF st (k + 1) j = upd (upd (mRiF st k) (14 + 5 * k + 2) (nI 0)) (14 + 5 * k + 1) (mRiF st k (14 + 5 * k + 1) * (if iRem (st 0 + nI 1) (nI 7) = 0 then nI 0 else nI 1)) j := by
  show upd _ _ (upd _ _ _ (14 + 5 * k + 1) * mRiB _) j = _
  unfold mRiB
  rw [upd_no (i := 14 + 5 * k + 1) (by omega), upd_no (i := 0) (by omega), rif_0]
theorem rif_no (st : Nat → Int32) (k j : Nat) (h0 : j ≠ 0) (h : ∀ r, r < k → j ≠ 14 + 5 * r + 1 ∧ j ≠ 14 + 5 * r + 2) : mRiF st k j = st j := by
  induction k with
  | zero => exact upd_no h0
  | succ k ih =>
    rw [rif_s, upd_no (h k (by omega)).1, upd_no (h k (by omega)).2]
    exact ih (fun r hr => h r (by omega))
theorem rif_2 (st : Nat → Int32) (k r : Nat) (h : r < k) : mRiF st k (14 + 5 * r + 2) = nI 0 := by
  induction k with
  | zero => omega
  | succ k ih =>
    rw [rif_s, upd_no (by omega)]
    by_cases hr : r = k
    · subst hr; exact upd_at
    · rw [upd_no (by omega)]; exact ih (by omega)
theorem rif_1 (st : Nat → Int32) (k r : Nat) (h : r < k) : mRiF st k (14 + 5 * r + 1) = st (14 + 5 * r + 1) * (if iRem (st 0 + nI 1) (nI 7) = 0 then nI 0 else nI 1) := by
  induction k with
  | zero => omega
  | succ k ih =>
    rw [rif_s]
    by_cases hr : r = k
    · subst hr
      rw [upd_at, rif_no st r _ (by omega) (fun q hq => ⟨by omega, by omega⟩)]
    · rw [upd_no (by omega), upd_no (by omega)]; exact ih (by omega)
theorem zr_at (f : Nat → Int32) (n r : Nat) (h : r < n) : pZr f n r = nI 0 := by
  induction n with
  | zero => omega
  | succ n ih =>
    show upd _ _ _ r = _
    by_cases hr : r = n
    · subst hr; exact upd_at
    · rw [upd_no hr]; exact ih (by omega)
theorem h0_all : ∀ r : Fin 6, nI 0 = bI (pHB (nI 0) (nI r.val)) := by decide
theorem i32_m0 (x : Int32) : x * nI 0 = nI 0 := Int32.mul_zero
theorem i32_m1 (x : Int32) : x * nI 1 = x := Int32.mul_one x
theorem RS.bell {S : Nat → Nat → Int32} {st : Nat → Int32} (hR : RS S st) : RS (sa (sc (sc S 0 (S 0 0 + nI 1)) 3 (nI 0)) 12 (pBM (S 0 0 + nI 1) (S 12))) (mRiF st 6) := by
  obtain ⟨⟨a0, a1, a2, a3, a4⟩, b, c, d, e, f, g, i, j⟩ := hR
  have hn : ∀ q, (0 < q ∧ q < 14) ∨ 44 ≤ q ∨ (∃ r, r < 6 ∧ (q = 14 + 5 * r ∨ q = 14 + 5 * r + 3 ∨ q = 14 + 5 * r + 4)) → mRiF st 6 q = st q := by
    intro q hq
    refine rif_no st 6 q (by rcases hq with h | h | ⟨r, h, h1⟩ <;> omega) (fun r hr => ?_)
    rcases hq with h | h | ⟨r', h, h1⟩
    · exact ⟨by omega, by omega⟩
    · exact ⟨by omega, by omega⟩
    · exact ⟨by omega, by omega⟩
  refine ⟨?_, fun r hr => ?_, fun m hm => ?_, fun m k hm hk => ?_, fun k hk => ?_, fun k hk => ?_, fun o i ho hi => ?_, fun r hr => ?_, ?_⟩
  · rw [rif_0, hn 1 (by omega), hn 2 (by omega), hn 3 (by omega), hn 4 (by omega)]
    simp (disch := omega) only [sa_ne, sc_ne, sc_k, sc_at]
    exact ⟨by rw [a0], a1, a2, a3, a4⟩
  · obtain ⟨b1, b2, b3, b4⟩ := b r hr
    rw [hn (14 + 5 * r) (by right; right; exact ⟨r, hr, by omega⟩), hn (14 + 5 * r + 3) (by right; right; exact ⟨r, hr, by omega⟩), hn (14 + 5 * r + 4) (by right; right; exact ⟨r, hr, by omega⟩), rif_1 st 6 r hr, sa_at]
    simp (disch := omega) only [sa_ne, sc_ne]
    refine ⟨b1, ?_, b3, b4⟩
    unfold pBM
    rw [a0, ← b2]
    by_cases h7 : iRem (st 0 + nI 1) (nI 7) = 0
    · rw [if_pos h7, if_pos h7, zr_at _ _ _ hr, i32_m0]
    · rw [if_neg h7, if_neg h7, i32_m1]
  · rw [hn (47 + 11 * m) (by omega), hn (47 + 11 * m + 1) (by omega), hn (47 + 11 * m + 2) (by omega)]
    simp (disch := omega) only [sa_ne, sc_ne]; exact c m hm
  · rw [hn (47 + 11 * m + (3 + k)) (by omega)]
    rw [sa_ne (j := 6) (by decide), sc_ne (j := 6) (by decide), sc_ne (j := 6) (by decide)] at hk
    simp (disch := omega) only [sa_ne, sc_ne]; exact d m k hm hk
  · rw [hn (6 + k) (by omega)]
    simp (disch := omega) only [sa_ne, sc_ne]; exact e k hk
  · rw [hn (12 + k) (by omega)]
    simp (disch := omega) only [sa_ne, sc_ne]; exact f k hk
  · rw [hn (44 + i) (by omega)]
    simp (disch := omega) only [sa_ne, sc_ne]; exact g o i ho hi
  · rw [rif_2 st 6 r hr, sa_ne (j := 0) (by decide), sc_at]
    exact h0_all ⟨r, hr⟩
  · rw [hn 5 (by omega)]
    simp (disch := omega) only [sa_ne, sc_ne]; exact j

