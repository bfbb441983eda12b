section TEACH
variable {B : Nat} {S Y U : Nat → Nat → Int32} {nt m : Nat}
theorem cpy_in {f g : Nat → Int32} {d n k : Nat} (hk : k < n) : va_cpy f g 0 d n (d + k) = f k := by
  show (if d ≤ d + k ∧ d + k < d + n then f (0 + (d + k - d)) else g (d + k)) = f k
  rw [if_pos ⟨by omega, by omega⟩]
  exact congrArg f (by omega)
theorem cpy_out {f g : Nat → Int32} {d n k : Nat} (hk : k < d ∨ d + n ≤ k) : va_cpy f g 0 d n k = g k := if_neg (by omega)
theorem RS.teach (hR : RS S (Y 2)) (hI : SI B S) (hm : m < 20) (h8 : nt ≤ 8) {t : Nat → Int32} (hU : ∀ j : Nat, j < nt → U 1 j = t j) : RS (pLn S U m nt) (mTcF (Y 2) t m nt 8) := by
  obtain ⟨a, b, c, d, e, f, g, i, j⟩ := hR
  unfold pLn
  have hn : ∀ q, q < 47 + 11 * m → mTcF (Y 2) t m nt 8 q = Y 2 q := fun q hq => tc_no (Y 2) t m nt 8 q (by omega) (by omega)
  refine ⟨?_, fun r hr => ?_, fun o ho => ?_, fun o k ho hk => ?_, fun k hk => ?_, fun k hk => ?_, fun o i ho hi => ?_, fun r hr => ?_, ?_⟩
  · simp (disch := omega) only [sa_ne, hn]; exact a
  · simp (disch := omega) only [sa_ne, hn]; exact b r hr
  · obtain ⟨c1, c2, c3⟩ := c o ho
    rw [sa_ne (j := 6) (by decide), sa_at, sa_ne (j := 9) (by decide), sa_ne (j := 9) (by decide), sa_ne (j := 10) (by decide), sa_ne (j := 10) (by decide), tc_no (Y 2) t m nt 8 (47 + 11 * o + 1) (by omega) (by omega), tc_no (Y 2) t m nt 8 (47 + 11 * o + 2) (by omega) (by omega)]
    refine ⟨?_, c2, c3⟩
    by_cases h : o = m
    · rw [h, upd_at, tc_len]
    · rw [upd_no h, tc_no (Y 2) t m nt 8 (47 + 11 * o) (by omega) (by omega)]; exact c1
  · rw [sa_ne (j := 6) (by decide), sa_at] at hk
    rw [sa_at]
    by_cases h : o = m
    · rw [h, upd_at, nOf_n (by omega)] at hk
      rw [h, cpy_in hk, tc_note _ _ _ _ _ _ (by omega), if_pos hk]
      exact hU k hk
    · rw [upd_no h] at hk
      have h9 := (hI.2.2.2.2.2.2.1 o ho).1.2.1
      rw [cpy_out (by omega), tc_no (Y 2) t m nt 8 (47 + 11 * o + (3 + k)) (by omega) (by omega)]; exact d o k ho hk
  · simp (disch := omega) only [sa_ne, hn]; exact e k hk
  · simp (disch := omega) only [sa_ne, hn]; exact f k hk
  · simp (disch := omega) only [sa_ne, hn]; exact g o i ho hi
  · simp (disch := omega) only [sa_ne, hn]; exact i r hr
  · simp (disch := omega) only [sa_ne, hn]; exact j
theorem wt_0 (hT : TT Y U nt) (h0 : mWT Y m nt = 0) : (2 ≤ nt ∧ nt ≤ 8) ∧ ∀ o : Nat, o < 20 → ¬ o = m → mHS Y o nt = false := by
  unfold mWT at h0
  rw [hT.tu] at h0
  by_cases h : 2 ≤ nt ∧ nt ≤ 8
  · refine ⟨h, fun o ho hne => ?_⟩
    rw [if_pos (decide_eq_true h)] at h0
    cases hq : mHS Y o nt with
    | false => rfl
    | true =>
      rw [if_pos ((mWc_iff Y m nt 20).mpr ⟨o, ho, hne, hq⟩)] at h0
      exact absurd h0 (by decide)
  · rw [if_neg (by rw [decide_eq_false h]; decide)] at h0
    exact absurd h0 (by decide)
theorem SI.teach (hR : RS S (Y 2)) (hI : SI B S) (hm : m < 20) (hT : TT Y U nt) (h0 : mWT Y m nt = 0) : SI B (pLn S U m nt) := by
  obtain ⟨⟨h2, h8⟩, hw⟩ := wt_0 hT h0
  have hI9 := hI
  obtain ⟨a0, a1, a2, a3, a4, a5, g, i, j⟩ := hI
  have hgU : ∀ k : Nat, k < nt → U 1 k = Y 13 k ∧ (U 1 k = nI (nOf (U 1 k)) ∧ nOf (U 1 k) < 7) := fun k hk => by
    have h1 := hT.2.2.1 k (by omega) hk
    exact ⟨h1, by rw [h1]; exact hT.2.2.2 k (by omega) hk⟩
  unfold pLn
  have e6 : ∀ f : Nat → Int32, sa (sa S 6 (upd (S 6) m (nI nt))) 7 f 6 = upd (S 6) m (nI nt) := fun f => by rw [sa_ne (j := 6) (by decide), sa_at]
  have e7 : ∀ f : Nat → Int32, sa (sa S 6 (upd (S 6) m (nI nt))) 7 f 7 = f := fun f => sa_at
  have hne : ∀ o : Nat, o < 20 → ¬ o = m → tlF S o = nt → ∃ k : Nat, k < nt ∧ ¬ (nOf (U 1 k) + 7 - nOf (U 1 0)) % 7 = (nOf (S 7 (o * 8 + k)) + 7 - nOf (S 7 (o * 8))) % 7 := by
    intro o ho ho2 hl
    rcases ex_diff (fun k => (nOf (U 1 k) + 7 - nOf (U 1 0)) % 7) (fun k => (nOf (S 7 (o * 8 + k)) + 7 - nOf (S 7 (o * 8))) % 7) nt with z | z
    · exfalso
      have h1 : mHS Y o nt = true := (HS_iff hR hI9 hT h8 ho).mpr ⟨hl, fun k hk => by
        rw [(shT_v hT h8 hk).2, (tS_v hI9 ho (k := k) (by omega)).2.2, ← (hgU k hk).1, ← (hgU 0 (by omega)).1]
        exact z k hk⟩
      rw [hw o ho ho2] at h1
      cases h1
    · exact z
  refine ⟨a0, a1, a2, a3, a4, a5, fun q hq => ?_, i, fun q o hq ho hqo hp hs => ?_⟩
  · obtain ⟨g1, g2, g3⟩ := g q hq
    rw [e6, e7]
    by_cases h : q = m
    · rw [h, upd_at, nOf_n (by omega)]
      rw [h] at g2
      exact ⟨⟨rfl, h8, by omega⟩, g2, fun k hk => by rw [cpy_in hk]; exact (hgU k hk).2⟩
    · rw [upd_no h]
      refine ⟨g1, g2, fun k hk => ?_⟩
      have g4 := g1.2.1
      rw [cpy_out (by omega)]
      exact g3 k hk
  · unfold sameSh at hs
    rw [e6, e7] at hs
    rw [e6] at hp
    have hcm : ∀ k : Nat, k < nt → va_cpy (U 1) (S 7) 0 (m * 8) nt (m * 8 + k) = U 1 k := fun k hk => cpy_in hk
    have hc0 : va_cpy (U 1) (S 7) 0 (m * 8) nt (m * 8) = U 1 0 := hcm 0 (by omega)
    have hco : ∀ z k : Nat, ¬ z = m → k < 8 → va_cpy (U 1) (S 7) 0 (m * 8) nt (z * 8 + k) = S 7 (z * 8 + k) := fun z k hz hk => cpy_out (by omega)
    have hco0 : ∀ z : Nat, ¬ z = m → va_cpy (U 1) (S 7) 0 (m * 8) nt (z * 8) = S 7 (z * 8) := fun z hz => hco z 0 hz (by omega)
    have hl8 : ∀ z : Nat, z < 20 → nOf (S 6 z) ≤ 8 := fun z hz => (g z hz).1.2.1
    obtain ⟨s1, s2⟩ := hs
    by_cases h : q = m
    · have h' : ¬ o = m := fun w => hqo (h.trans w.symm)
      rw [h, upd_at, nOf_n (by omega)] at s1 s2
      rw [upd_no h'] at s1
      obtain ⟨k, k1, k2⟩ := hne o ho h' s1.symm
      have h3 := s2 k k1
      rw [hcm k k1, hc0, hco o k h' (by omega), hco0 o h'] at h3
      exact k2 h3
    · rw [upd_no h] at s1 s2 hp
      by_cases h' : o = m
      · rw [h', upd_at, nOf_n (by omega)] at s1
        obtain ⟨k, k1, k2⟩ := hne q hq h s1
        have h3 := s2 k (by omega)
        rw [h', hcm k k1, hc0, hco q k h (by omega), hco0 q h] at h3
        exact k2 h3.symm
      · rw [upd_no h'] at s1
        refine j q o hq ho hqo hp ⟨s1, fun k hk => ?_⟩
        have h9 := hl8 q hq
        have h3 := s2 k hk
        rw [hco q k h (by omega), hco0 q h, hco o k h' (by omega), hco0 o h'] at h3
        exact h3
end TEACH

