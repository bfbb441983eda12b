theorem ix_neg_all : ∀ n : Fin 128, pIx n.val < 0 ↔ pIx n.val = -1 := by decide +kernel
theorem ix_neg {c : Nat} (h : c < 127) : (pIx c < 0) = (pIx c = -1) := propext (ix_neg_all ⟨c, by omega⟩)
theorem ix_note_all : ∀ n : Fin 128, ¬ pIx n.val = -1 → (pIx n.val = nI (nOf (pIx n.val)) ∧ nOf (pIx n.val) < 7) ∧ 97 ≤ n.val ∧ n.val ≤ 104 := by decide +kernel
theorem ix_note {c : Nat} (hc : c < 127) (h : ¬ pIx c = -1) : (pIx c = nI (nOf (pIx c)) ∧ nOf (pIx c) < 7) ∧ 97 ≤ c ∧ c ≤ 104 := ix_note_all ⟨c, by omega⟩ h
theorem ix_40 : pIx 40 < 0 := by decide +kernel
theorem ix_41 : pIx 41 < 0 := by decide +kernel
theorem ix_23 : ∀ c : Fin 2, pIx (50 + c.val) < 0 := by decide +kernel
/-- the class's notes and groups beside the reference's -/
def TN (r : (Nat → Int32) × Nat × (Nat → Int32) × Nat) (m : Nat) (t : Nat → Int32) (g : Nat) (o : Nat → Int32) : Prop := r.2.1 = m ∧ r.2.2.2 = g ∧ (∀ j : Nat, j < 8 → j < m → r.1 j = t j) ∧ ∀ j : Nat, j < g → r.2.2.1 j = o j
theorem TN_note {r : (Nat → Int32) × Nat × (Nat → Int32) × Nat} {m g c : Nat} {t o : Nat → Int32} (h : TN r m t g o) (hc : c < 127) (hx : ¬ pIx c = -1) (hm : m ≤ 9) : TN (tSt c r) (mAdN m) (mAdT t m (pIx c)) g o := by
  obtain ⟨h1, h2, h3, h4⟩ := h
  rw [tSt_1 (by rw [ix_neg hc]; exact hx)]
  refine ⟨?_, h2, fun j hj hj2 => ?_, h4⟩
  · show pMin9 (r.2.1 + 1) = mAdN m
    rw [h1]
    unfold pMin9 mAdN
    split <;> split <;> omega
  · show (if r.2.1 < 9 then upd r.1 r.2.1 (pIx c) else r.1) j = mAdT t m (pIx c) j
    rw [h1]
    unfold mAdT
    unfold mAdN at hj2
    by_cases e : j = m
    · subst e
      rw [if_pos (by omega), if_pos hj, upd_at, upd_at]
    · have hjm : j < m := by split at hj2 <;> omega
      have e1 : (if m < 9 then upd r.1 m (pIx c) else r.1) j = r.1 j := by
        split
        · exact upd_no e
        · rfl
      have e2 : (if m < 8 then upd t m (pIx c) else t) j = t j := by
        split
        · exact upd_no e
        · rfl
      rw [e1, e2]
      exact h3 j hj hjm
theorem TN_open {r : (Nat → Int32) × Nat × (Nat → Int32) × Nat} {m g : Nat} {t o : Nat → Int32} (h : TN r m t g o) (hg : g < 3) : TN (tSt 40 r) m t (g + 1) (upd o g (nI m)) := by
  obtain ⟨h1, h2, h3, h4⟩ := h
  rw [tSt_2 ix_40 ⟨rfl, by omega⟩]
  refine ⟨h1, ?_, h3, fun j hj => ?_⟩
  · show r.2.2.2 + 1 = g + 1
    rw [h2]
  · show upd r.2.2.1 r.2.2.2 (nI r.2.1) j = upd o g (nI m) j
    rw [h2, h1]
    by_cases e : j = g
    · rw [e, upd_at, upd_at]
    · rw [upd_no e, upd_no e]
      exact h4 j (by omega)
theorem TN_41 (r : (Nat → Int32) × Nat × (Nat → Int32) × Nat) : tSt 41 r = r := tSt_4 ix_41 (fun q => absurd q.1 (by decide)) (fun q => q.1 rfl)
theorem pRep_rp {f t : Nat → Int32} {st n : Nat} (hst : st ≤ n) (hn : n ≤ 9) (h : ∀ j : Nat, j < 8 → j < n → f j = t j) (k : Nat) (hk : 0 < k → st < n) : pMn n k = (rpS st t n k).2 ∧ ∀ j : Nat, j < 8 → j < pMn n k → pRep f st n k j = (rpS st t n k).1 j := by
  induction k with
  | zero =>
    rw [pMn_0 hn]
    exact ⟨rfl, fun j hj hj2 => h j hj hj2⟩
  | succ k ih =>
    have hs := hk (Nat.succ_pos k)
    obtain ⟨i1, i2⟩ := ih (fun _ => hs)
    by_cases h9 : n + k < 9
    · have e1 : pMn n k = n + k := if_pos h9
      rw [e1] at i1 i2
      have e2 : pMn n (k + 1) = n + k + 1 := by unfold pMn; split <;> omega
      have e3 : mAdN (n + k) = n + k + 1 := if_neg (by omega)
      rw [rpS_s (by omega), ← i1, e2, e3]
      refine ⟨rfl, fun j hj hj2 => ?_⟩
      have e4 : pRep f st n (k + 1) = upd (pRep f st n k) (n + k) ((pRep f st n k) (st + k)) := if_pos h9
      rw [e4]
      show _ = mAdT (rpS st t n k).1 (n + k) (if st + k < 8 then (rpS st t n k).1 (st + k) else nI 0) j
      unfold mAdT
      by_cases e : j = n + k
      · subst e
        rw [upd_at, if_pos hj, upd_at, if_pos (by omega)]
        exact i2 (st + k) (by omega) (by omega)
      · rw [upd_no e]
        have e5 : (if n + k < 8 then upd (rpS st t n k).1 (n + k) (if st + k < 8 then (rpS st t n k).1 (st + k) else nI 0) else (rpS st t n k).1) j = (rpS st t n k).1 j := by
          split
          · exact upd_no e
          · rfl
        rw [e5]
        exact i2 j hj (by omega)
    · have e1 : pMn n k = 9 := if_neg h9
      have e2 : pMn n (k + 1) = 9 := if_neg (by omega)
      have e3 : pRep f st n (k + 1) = pRep f st n k := if_neg h9
      have e4 : rpS st t n (k + 1) = rpS st t n k := if_neg (by rw [← i1, e1]; decide)
      rw [e2, e3, e4, ← i1, e1]
      rw [e1] at i2
      exact ⟨rfl, i2⟩
theorem pRep_st {f : Nat → Int32} {st n k : Nat} (h : 9 ≤ n + k) (j : Nat) : pRep f st n (k + j) = pRep f st n k := by
  induction j with
  | zero => rfl
  | succ j ih =>
    have e : pRep f st n (k + j + 1) = pRep f st n (k + j) := if_neg (by omega)
    show pRep f st n (k + j + 1) = _
    rw [e, ih]
theorem pAd_all : ∀ (n st : Fin 10) (c : Fin 2), st ≤ n → (pAd n.val st.val (nI (50 + c.val) - nI 48)).toInt.toNat = (n.val - st.val) * (50 + c.val - 48 - 1) := by decide +kernel
theorem pAn_M {f : Nat → Int32} {n st c : Nat} (hn : n ≤ 9) (hst : st ≤ n) (h1 : 50 ≤ c) (h2 : c ≤ 51) : pRep f st n (pAn n st (nI c - nI 48)) = pRep f st n ((n - st) * (c - 48 - 1)) ∧ pMn n (pAn n st (nI c - nI 48)) = pMn n ((n - st) * (c - 48 - 1)) := by
  have h := pAd_all ⟨n, by omega⟩ ⟨st, by omega⟩ ⟨c - 50, by omega⟩ hst
  have e0 : 50 + (c - 50) = c := by omega
  simp only [e0] at h
  unfold pAn
  rw [h]
  generalize (n - st) * (c - 48 - 1) = M
  rcases Nat.le_total M (9 - st) with q | q
  · rw [Nat.min_eq_left q]
    exact ⟨rfl, rfl⟩
  · rw [Nat.min_eq_right q]
    have e1 : M = (9 - st) + (M - (9 - st)) := by omega
    refine ⟨?_, ?_⟩
    · rw [e1, pRep_st (by omega)]
    · unfold pMn
      rw [if_neg (by omega), if_neg (by omega)]
theorem TN_rep {r : (Nat → Int32) × Nat × (Nat → Int32) × Nat} {m g c : Nat} {t o : Nat → Int32} (h : TN r m t g o) (hg : 0 < g) (hm : m ≤ 9) (hst : nOf (o (g - 1)) ≤ m) (h1 : 50 ≤ c) (h2 : c ≤ 51) : TN (tSt c r) (rpS (nOf (o (g - 1))) t m ((m - nOf (o (g - 1))) * (c - 48 - 1))).2 (rpS (nOf (o (g - 1))) t m ((m - nOf (o (g - 1))) * (c - 48 - 1))).1 (g - 1) o := by
  obtain ⟨a1, a2, a3, a4⟩ := h
  have hx : pIx c < 0 := by
    have := ix_23 ⟨c - 50, by omega⟩
    simp only [show 50 + (c - 50) = c by omega] at this
    exact this
  rw [tSt_3 hx (fun q => by omega) ⟨by omega, by omega⟩]
  have e : r.2.2.1 (g - 1) = o (g - 1) := a4 (g - 1) (by omega)
  generalize o (g - 1) = x at hst e ⊢
  have hM := pAn_M (f := r.1) hm hst h1 h2
  have hR := pRep_rp (f := r.1) (t := t) hst hm a3 ((m - nOf x) * (c - 48 - 1)) (fun q => by
    rcases Nat.lt_or_ge (nOf x) m with z | z
    · exact z
    · rw [show m - nOf x = 0 by omega, Nat.zero_mul] at q
      exact absurd q (Nat.lt_irrefl 0))
  refine ⟨?_, ?_, fun j hj hj2 => ?_, fun j hj => a4 j (by omega)⟩
  · show pMn r.2.1 (pAn r.2.1 (nOf (r.2.2.1 (r.2.2.2 - 1))) (nI c - nI 48)) = _
    rw [a1, a2, e, hM.2, hR.1]
  · show r.2.2.2 - 1 = g - 1
    rw [a2]
  · show pRep r.1 (nOf (r.2.2.1 (r.2.2.2 - 1))) r.2.1 (pAn r.2.1 (nOf (r.2.2.1 (r.2.2.2 - 1))) (nI c - nI 48)) j = _
    rw [a1, a2, e, hM.1]
    exact hR.2 j hj (by rw [hR.1]; exact hj2)
theorem gS_s (cd : Nat → Nat) (L st : Nat) (ev : Bool) (k : Nat) : gS cd L st ev (k + 1) = gAf (gS cd L st ev k).1 (pAt cd L k) (gS cd L st ev k).2 ev := rfl
theorem gAf_0 (c d : Nat) (ev : Bool) : gAf 0 c d ev = (0, d) := rfl
theorem gS_0 {cd : Nat → Nat} {L st : Nat} {ev : Bool} {k : Nat} (h : (gS cd L st ev k).1 = 0) (j : Nat) : (gS cd L st ev (k + j)).1 = 0 := by
  induction j with
  | zero => exact h
  | succ j ih =>
    show (gS cd L st ev (k + j + 1)).1 = 0
    rw [gS_s, ih, gAf_0]
theorem gS_n0 {cd : Nat → Nat} {L st : Nat} {ev : Bool} {p : Nat} (h : ¬ (gS cd L st ev p).1 = 0) {k : Nat} (hk : k ≤ p) : ¬ (gS cd L st ev k).1 = 0 := by
  intro q
  have h1 := gS_0 q (p - k)
  rw [show k + (p - k) = p by omega] at h1
  exact h h1
theorem nFind_at {P : Nat → Bool} {N p : Nat} (h : ∀ k : Nat, k < p → P k = false) (hp : p < N) (hP : P p = true) : nFind P N 0 = p := by
  have h1 : ∀ j : Nat, j ≤ p → nFind P N 0 = nFind P (N - j) j := by
    intro j
    induction j with
    | zero => intro _; rfl
    | succ j ih =>
      intro hj
      rw [ih (by omega)]
      exact nFind_n (by omega) (h j (by omega))
  rw [h1 p (Nat.le_refl p)]
  exact nFind_y hp hP
theorem nFind_no {P : Nat → Bool} {N : Nat} (h : ∀ k : Nat, k < N → P k = false) : nFind P N 0 = N := by
  have h1 : ∀ j : Nat, j ≤ N → nFind P N 0 = nFind P (N - j) j := by
    intro j
    induction j with
    | zero => intro _; rfl
    | succ j ih =>
      intro hj
      rw [ih (by omega)]
      exact nFind_n (by omega) (h j (by omega))
  rw [h1 N (Nat.le_refl N), Nat.sub_self]
  rfl
theorem er_at {cd : Nat → Nat} {L st : Nat} {ev : Bool} {p : Nat} (h1 : ¬ (gS cd L st ev p).1 = 0) (hp : p < L) (h2 : (gS cd L st ev (p + 1)).1 = 0) : gEr cd L st ev = p :=
  nFind_at (fun k hk => decide_eq_false (gS_n0 h1 (by omega))) hp (decide_eq_true h2)
theorem er_L {cd : Nat → Nat} {L st : Nat} {ev : Bool} (h1 : ¬ (gS cd L st ev L).1 = 0) : gEr cd L st ev = L :=
  nFind_no (fun k hk => decide_eq_false (gS_n0 h1 (by omega)))
def TQ (cd : Nat → Nat) (L a st : Nat) (ev : Bool) (f0 g0 : Nat → Int32) (p m : Nat) (t : Nat → Int32) (g : Nat) (o : Nat → Int32) (b : Bool) : Prop :=
  a ≤ p ∧ TN (tV cd L a f0 g0 (p - a)) m t g o ∧ gS cd L st ev p = (bif b then 4 else 5, g) ∧ ∀ i : Nat, a ≤ i → i < p → ¬ pAt cd L i = 44
/-- a sign with which the reference's reader stops -/
def TX (cd : Nat → Nat) (L p g : Nat) (b : Bool) : Prop := pIx (pAt cd L p) = -1 ∧ ¬ (pAt cd L p = 40 ∧ g < 3) ∧ ¬ (pAt cd L p = 41 ∧ 0 < g ∧ b = false)
def TZ (cd : Nat → Nat) (L a st : Nat) (ev : Bool) (f0 g0 : Nat → Int32) (s : RT) : Prop :=
  (s.2.2.2 = 0 ∧ TQ cd L a st ev f0 g0 s.1.1 s.1.2.1 s.1.2.2 s.2.1.1 s.2.1.2 s.2.2.1) ∨
  (s.2.2.2 = 1 ∧ TQ cd L a st ev f0 g0 s.1.1 s.1.2.1 s.1.2.2 s.2.1.1 s.2.1.2 s.2.2.1 ∧ TX cd L s.1.1 s.2.1.1 s.2.2.1) ∨
  (s.2.2.2 = 2 ∧ a ≤ s.1.1 ∧ (∃ d : Nat, gS cd L st ev s.1.1 = (6, d)) ∧ pIn9 (pAt cd L s.1.1) 50 51 = false ∧ ∀ i : Nat, a ≤ i → i < s.1.1 → ¬ pAt cd L i = 44)
section TQ
variable {cd : Nat → Nat} {L a st : Nat} {ev : Bool} {f0 g0 : Nat → Int32} {p m : Nat} {t : Nat → Int32} {g : Nat} {o : Nat → Int32} {b : Bool}
theorem tV_p (h : a ≤ p) : tV cd L a f0 g0 (p + 1 - a) = tSt (pAt cd L p) (tV cd L a f0 g0 (p - a)) := by
  rw [show p + 1 - a = (p - a) + 1 by omega, tV_s, show a + (p - a) = p by omega]
theorem gMo_it {c d : Nat} (h1 : ¬ (c = 41 ∧ 0 < d)) (h2 : ¬ (c = 44 ∧ d = 0 ∧ ev = true)) : gMo c d ev = gIt c d := (if_neg h1).trans (if_neg h2)
theorem gIt_0 {c d : Nat} (hc : c < 127) (h1 : pIx c = -1) (h2 : ¬ (c = 40 ∧ d < 3)) : gIt c d = (0, d) := by
  unfold gIt
  rw [if_neg (by rw [ix_neg hc]; exact fun q => q h1), if_neg h2]
theorem TQ_note (h : TQ cd L a st ev f0 g0 p m t g o b) (hc : pAt cd L p < 127) (hx : ¬ pIx (pAt cd L p) = -1) (hm : m ≤ 9) : TQ cd L a st ev f0 g0 (p + 1) (mAdN m) (mAdT t m (pIx (pAt cd L p))) g o false := by
  obtain ⟨h1, h2, h3, h4⟩ := h
  have hn := ix_note hc hx
  have hi : gIt (pAt cd L p) g = (5, g) := if_pos (by rw [ix_neg hc]; exact hx)
  refine ⟨by omega, by rw [tV_p h1]; exact TN_note h2 hc hx hm, ?_, fun i hi hi2 => ?_⟩
  · rw [gS_s, h3]
    cases b
    · show gMo (pAt cd L p) g ev = (5, g)
      rw [gMo_it (by omega) (by omega)]
      exact hi
    · exact hi
  · rcases Nat.lt_or_ge i p with q | q
    · exact h4 i hi q
    · rw [show i = p by omega]; omega
theorem TQ_open (h : TQ cd L a st ev f0 g0 p m t g o b) (hx : pAt cd L p = 40) (hg : g < 3) : TQ cd L a st ev f0 g0 (p + 1) m t (g + 1) (upd o g (nI m)) true := by
  obtain ⟨h1, h2, h3, h4⟩ := h
  have hi : gIt 40 g = (4, g + 1) := by
    unfold gIt
    rw [if_neg (fun q => q ix_40), if_pos ⟨rfl, hg⟩]
  refine ⟨by omega, by rw [tV_p h1, hx]; exact TN_open h2 hg, ?_, fun i hi hi2 => ?_⟩
  · rw [gS_s, h3, hx]
    cases b
    · show gMo 40 g ev = (4, g + 1)
      rw [gMo_it (by omega) (by omega)]
      exact hi
    · exact hi
  · rcases Nat.lt_or_ge i p with q | q
    · exact h4 i hi q
    · rw [show i = p by omega]; omega
theorem TQ_bad (h : TQ cd L a st ev f0 g0 p m t g o false) (hx : pAt cd L p = 41) (hg : 0 < g) : gS cd L st ev (p + 1) = (6, g - 1) ∧ ∀ i : Nat, a ≤ i → i < p + 1 → ¬ pAt cd L i = 44 := by
  obtain ⟨h1, h2, h3, h4⟩ := h
  refine ⟨?_, fun i hi hi2 => ?_⟩
  · rw [gS_s, h3, hx]
    show gMo 41 g ev = (6, g - 1)
    exact if_pos ⟨rfl, hg⟩
  · rcases Nat.lt_or_ge i p with q | q
    · exact h4 i hi q
    · rw [show i = p by omega]; omega
theorem TQ_rep (h : TQ cd L a st ev f0 g0 p m t g o false) (hx : pAt cd L p = 41) (hg : 0 < g) (hm : m ≤ 9) (hst : nOf (o (g - 1)) ≤ m) (hd : pIn9 (pAt cd L (p + 1)) 50 51 = true) : TQ cd L a st ev f0 g0 (p + 2) (rpS (nOf (o (g - 1))) t m ((m - nOf (o (g - 1))) * (pAt cd L (p + 1) - 48 - 1))).2 (rpS (nOf (o (g - 1))) t m ((m - nOf (o (g - 1))) * (pAt cd L (p + 1) - 48 - 1))).1 (g - 1) o false := by
  have hb := TQ_bad h hx hg
  obtain ⟨h1, h2, h3, h4⟩ := h
  have hd2 := in9_le hd
  refine ⟨by omega, ?_, ?_, fun i hi hi2 => ?_⟩
  · have e : tV cd L a f0 g0 (p + 2 - a) = tSt (pAt cd L (p + 1)) (tV cd L a f0 g0 (p - a)) := by
      have e1 := tV_p (cd := cd) (L := L) (a := a) (f0 := f0) (g0 := g0) (p := p + 1) (by omega)
      rw [tV_p h1, hx, TN_41] at e1
      exact e1
    rw [e]
    exact TN_rep h2 hg hm hst hd2.1 hd2.2
  · show gS cd L st ev (p + 1 + 1) = (5, g - 1)
    rw [gS_s, hb.1]
    show (if pIn9 (pAt cd L (p + 1)) 50 51 then 5 else 0, g - 1) = (5, g - 1)
    rw [hd]
    rfl
  · rcases Nat.lt_or_ge i (p + 1) with q | q
    · exact hb.2 i hi q
    · rw [show i = p + 1 by omega]; omega
end TQ
theorem TZ_s {cd : Nat → Nat} {L a st : Nat} {ev : Bool} {f0 g0 : Nat → Int32} {s : RT} (hc : ∀ i : Nat, i < L → cd i < 127) (hI : rtI L s) (h : TZ cd L a st ev f0 g0 s) : TZ cd L a st ev f0 g0 (rtS cd L s) := by
  rcases h with ⟨h0, hq⟩ | h | h
  · have hc1 : pAt cd L s.1.1 < 127 := pAt_lt hc
    unfold rtS
    rw [if_pos h0]
    by_cases hx : pIx (pAt cd L s.1.1) = -1
    · rw [if_neg (fun q => q hx)]
      by_cases ho : pAt cd L s.1.1 = 40 ∧ s.2.1.1 < 3
      · rw [if_pos ho]
        exact Or.inl ⟨rfl, TQ_open hq ho.1 ho.2⟩
      · rw [if_neg ho]
        by_cases hcl : pAt cd L s.1.1 = 41 ∧ 0 < s.2.1.1 ∧ s.2.2.1 = false
        · rw [if_pos hcl]
          rw [hcl.2.2] at hq
          cases hd : pIn9 (pAt cd L (s.1.1 + 1)) 50 51
          · rw [if_neg (by decide)]
            have hb := TQ_bad hq hcl.1 hcl.2.1
            exact Or.inr (Or.inr ⟨rfl, Nat.le_succ_of_le hq.1, ⟨_, hb.1⟩, hd, hb.2⟩)
          · rw [if_pos rfl]
            exact Or.inl ⟨rfl, TQ_rep hq hcl.1 hcl.2.1 hI.2.1 (hI.2.2.2 _ (by omega)).2 hd⟩
        · rw [if_neg hcl]
          exact Or.inr (Or.inl ⟨rfl, hq, hx, ho, hcl⟩)
    · rw [if_pos hx]
      exact Or.inl ⟨rfl, TQ_note hq hc1 hx hI.2.1⟩
  · have e : rtS cd L s = s := if_neg (by omega)
    rw [e]
    exact Or.inr (Or.inl h)
  · have e : rtS cd L s = s := if_neg (by omega)
    rw [e]
    exact Or.inr (Or.inr h)
theorem rtE_end {cd : Nat → Nat} {L a : Nat} {t o : Nat → Int32} (h : a ≤ L) : ¬ (rtE cd L a t o).2.2.2 = 0 := by
  intro q
  have h1 := rt_k (cd := cd) (L := L) (s0 := ((a, 0, t), (0, o), true, 0)) (L + 1) q
  have h2 := (rtE_I (cd := cd) (L := L) (t := t) (o := o) h).1
  unfold rtE at h2
  omega
theorem rtE_Z {cd : Nat → Nat} {L a st : Nat} {ev : Bool} (f0 g0 t o : Nat → Int32) (hc : ∀ i : Nat, i < L → cd i < 127) (ha : a ≤ L) (hg : gS cd L st ev a = (4, 0)) : TZ cd L a st ev f0 g0 (rtE cd L a t o) := by
  have h : ∀ k : Nat, TZ cd L a st ev f0 g0 (rt cd L ((a, 0, t), (0, o), true, 0) k) := by
    intro k
    induction k with
    | zero =>
      refine Or.inl ⟨rfl, Nat.le_refl a, ?_, hg, fun i h1 h2 => ?_⟩
      · show TN (tV cd L a f0 g0 (a - a)) 0 t 0 o
        rw [Nat.sub_self]
        exact ⟨rfl, rfl, fun j _ hj => absurd hj (Nat.not_lt_zero j), fun j hj => absurd hj (Nat.not_lt_zero j)⟩
      · have h2 : i < a := h2
        omega
    | succ k ih => exact TZ_s hc (rt_I ⟨ha, Nat.zero_le _, Nat.zero_le _, fun j hj => absurd hj (Nat.not_lt_zero j)⟩ k) ih
  exact h (L + 1)
/-- the sign behind a tune -/
theorem TX_next {cd : Nat → Nat} {L a st : Nat} {ev : Bool} {f0 g0 : Nat → Int32} {p m : Nat} {t : Nat → Int32} {g : Nat} {o : Nat → Int32} {b : Bool} (hc : ∀ i : Nat, i < L → cd i < 127) (h : TQ cd L a st ev f0 g0 p m t g o b) (hX : TX cd L p g b) (hn : ¬ (b = false ∧ g = 0 ∧ pAt cd L p = 44 ∧ ev = true)) : (gS cd L st ev (p + 1)).1 = 0 := by
  obtain ⟨x1, x2, x3⟩ := hX
  have hi := gIt_0 (pAt_lt hc) x1 x2
  rw [gS_s, h.2.2.1]
  cases b
  · show (gMo (pAt cd L p) g ev).1 = 0
    rw [gMo_it (fun q => x3 ⟨q.1, q.2, rfl⟩) (fun q => hn ⟨rfl, q.2.1, q.1, q.2.2⟩), hi]
  · show (gIt (pAt cd L p) g).1 = 0
    rw [hi]
theorem gM_no {b : Bool} {g : Nat} (h : ¬ (b = false ∧ g = 0)) : gMay (bif b then 4 else 5) g = false := by
  cases b
  · refine decide_eq_false (fun q => ?_)
    rcases q with q | q | q
    · cases q
    · cases q
    · exact h ⟨rfl, q.2⟩
  · refine decide_eq_false (fun q => ?_)
    rcases q with q | q | q
    · cases q
    · cases q
    · cases q.1
theorem bif_n0 (b : Bool) : ¬ (bif b then (4 : Nat) else 5) = 0 := by cases b <;> decide
/-- a tune read to its end: what the class's reader says there -/
theorem tu_end {cd : Nat → Nat} {L a st : Nat} {ev : Bool} (f0 g0 t o : Nat → Int32) (hc : ∀ i : Nat, i < L → cd i < 127) (ha : a ≤ L) (hg : gS cd L st ev a = (4, 0)) :
    (rtB (rtE cd L a t o) = true → gS cd L st ev (rtE cd L a t o).1.1 = (5, 0) ∧ TN (tV cd L a f0 g0 ((rtE cd L a t o).1.1 - a)) (rtE cd L a t o).1.2.1 (rtE cd L a t o).1.2.2 0 (rtE cd L a t o).2.1.2 ∧ (¬ (pAt cd L (rtE cd L a t o).1.1 = 44 ∧ ev = true) → (gS cd L st ev ((rtE cd L a t o).1.1 + 1)).1 = 0)) ∧
    (rtB (rtE cd L a t o) = false → ¬ (gS cd L st ev (rtE cd L a t o).1.1).1 = 0 ∧ gMay (gS cd L st ev (rtE cd L a t o).1.1).1 (gS cd L st ev (rtE cd L a t o).1.1).2 = false ∧ (gS cd L st ev ((rtE cd L a t o).1.1 + 1)).1 = 0) ∧
    a ≤ (rtE cd L a t o).1.1 ∧ ∀ i : Nat, a ≤ i → i < (rtE cd L a t o).1.1 → ¬ pAt cd L i = 44 := by
  have hZ := rtE_Z (st := st) (ev := ev) f0 g0 t o hc ha hg
  have hE := rtE_end (cd := cd) (t := t) (o := o) ha
  generalize rtE cd L a t o = s at hZ hE ⊢
  rcases hZ with ⟨h0, -⟩ | ⟨h0, hq, hX⟩ | ⟨h0, h1, ⟨d, h2⟩, h3, h4⟩
  · exact absurd h0 hE
  · refine ⟨fun hB => ?_, fun hB => ?_, hq.1, hq.2.2.2⟩
    · obtain ⟨-, b2, b3⟩ := of_decide_eq_true hB
      rw [b2, b3] at hq hX
      refine ⟨hq.2.2.1, hq.2.1, fun hn => TX_next hc hq hX (fun q => hn q.2.2)⟩
    · have hB2 := of_decide_eq_false hB
      have hn : ¬ (s.2.2.1 = false ∧ s.2.1.1 = 0) := fun q => hB2 ⟨h0, q.1, q.2⟩
      refine ⟨?_, ?_, TX_next hc hq hX (fun q => hn ⟨q.1, q.2.1⟩)⟩
      · rw [hq.2.2.1]; exact bif_n0 _
      · rw [hq.2.2.1]; exact gM_no hn
  · refine ⟨fun hB => ?_, fun _ => ⟨?_, ?_, ?_⟩, h1, h4⟩
    · have := (of_decide_eq_true hB).1
      omega
    · rw [h2]; show ¬ (6 : Nat) = 0; decide
    · rw [h2]
      refine decide_eq_false (fun q => ?_)
      rcases q with q | q | q
      · cases q
      · cases q
      · cases q.1
    · rw [gS_s, h2]
      show (if pIn9 (pAt cd L s.1.1) 50 51 then 5 else 0) = 0
      rw [h3]
      rfl
/-- the whole buffer as a tune -/
theorem tu_er {cd : Nat → Nat} {L : Nat} (t o : Nat → Int32) (hc : ∀ i : Nat, i < L → cd i < 127) : gEr cd L 4 false = (rtE cd L 0 t o).1.1 := by
  have h := tu_end (cd := cd) (L := L) (a := 0) (st := 4) (ev := false) t o t o hc (Nat.zero_le L) rfl
  have hI := (rtE_I (cd := cd) (L := L) (t := t) (o := o) (Nat.zero_le L)).1
  have h0 : ¬ (gS cd L 4 false (rtE cd L 0 t o).1.1).1 = 0 ∧ (gS cd L 4 false ((rtE cd L 0 t o).1.1 + 1)).1 = 0 := by
    cases hB : rtB (rtE cd L 0 t o)
    · have h1 := h.2.1 hB
      exact ⟨h1.1, h1.2.2⟩
    · have h1 := h.1 hB
      refine ⟨by rw [h1.1]; decide, h1.2.2 (fun q => Bool.noConfusion q.2)⟩
  rcases Nat.lt_or_ge (rtE cd L 0 t o).1.1 L with q | q
  · exact er_at h0.1 q h0.2
  · have e : (rtE cd L 0 t o).1.1 = L := by omega
    rw [e] at h0 ⊢
    exact er_L h0.1
theorem tu_bT {cd : Nat → Nat} {L : Nat} (t o : Nat → Int32) (hc : ∀ i : Nat, i < L → cd i < 127) : bT cd L = (rtB (rtE cd L 0 t o) && decide ((rtE cd L 0 t o).1.1 = L)) := by
  have h := tu_end (cd := cd) (L := L) (a := 0) (st := 4) (ev := false) t o t o hc (Nat.zero_le L) rfl
  have hI := (rtE_I (cd := cd) (L := L) (t := t) (o := o) (Nat.zero_le L)).1
  have he := tu_er t o hc
  unfold bT gEn
  rw [he]
  rcases Nat.lt_or_ge (rtE cd L 0 t o).1.1 L with q | q
  · rw [decide_eq_false (p := (rtE cd L 0 t o).1.1 = L) (by omega), Bool.and_false]
    exact decide_eq_false (fun z => z.1 q)
  · have e : (rtE cd L 0 t o).1.1 = L := by omega
    rw [decide_eq_true e, Bool.and_true, if_neg (by omega)]
    cases hB : rtB (rtE cd L 0 t o)
    · have h1 := h.2.1 hB
      rw [e] at h1
      refine decide_eq_false (fun z => ?_)
      rw [h1.2.1] at z
      cases z.2
    · have h1 := (h.1 hB).1
      rw [e] at h1
      refine decide_eq_true ⟨by omega, ?_⟩
      rw [h1]
      rfl
def tGd (m : Nat) (t : Nat → Int32) : Prop := ∀ j : Nat, j < 8 → j < m → t j = nI (nOf (t j)) ∧ nOf (t j) < 7
theorem tGd_ad {m : Nat} {t : Nat → Int32} {x : Int32} (h : tGd m t) (hx : x = nI (nOf x) ∧ nOf x < 7) : tGd (mAdN m) (mAdT t m x) := by
  intro j hj hj2
  unfold mAdN at hj2
  unfold mAdT
  by_cases e : j = m
  · rw [if_pos (by omega), e, upd_at]; exact hx
  · have e2 : (if m < 8 then upd t m x else t) j = t j := by
      split
      · exact upd_no e
      · rfl
    rw [e2]
    exact h j hj (by split at hj2 <;> omega)
theorem tGd_rp {f m : Nat} {t : Nat → Int32} (h : tGd m t) (k : Nat) (hf : 0 < k → f < m) : tGd (rpS f t m k).2 (rpS f t m k).1 ∧ ((rpS f t m k).2 = m + k ∨ 8 < (rpS f t m k).2) := by
  induction k with
  | zero => exact ⟨h, Or.inl rfl⟩
  | succ k ih =>
    have hf2 := hf (Nat.succ_pos k)
    obtain ⟨i1, i2⟩ := ih (fun _ => hf2)
    by_cases h8 : (rpS f t m k).2 ≤ 8
    · rw [rpS_s h8]
      have e : (rpS f t m k).2 = m + k := by omega
      refine ⟨tGd_ad i1 ?_, ?_⟩
      · by_cases h9 : f + k < 8
        · rw [if_pos h9]
          exact i1 (f + k) h9 (by omega)
        · rw [if_neg h9]
          exact ⟨by decide, by decide⟩
      · left
        show mAdN (rpS f t m k).2 = m + (k + 1)
        unfold mAdN
        rw [if_neg (by omega), e]
        omega
    · have e : rpS f t m (k + 1) = rpS f t m k := if_neg h8
      rw [e]
      exact ⟨i1, Or.inr (by omega)⟩
theorem rt_Gd {cd : Nat → Nat} {L : Nat} {s : RT} (hc : ∀ i : Nat, i < L → cd i < 127) (hI : rtI L s) (h : tGd s.1.2.1 s.1.2.2) : tGd (rtS cd L s).1.2.1 (rtS cd L s).1.2.2 := by
  unfold rtS
  by_cases h0 : s.2.2.2 = 0
  · rw [if_pos h0]
    by_cases hx : pIx (pAt cd L s.1.1) = -1
    · rw [if_neg (fun q => q hx)]
      by_cases ho : pAt cd L s.1.1 = 40 ∧ s.2.1.1 < 3
      · rw [if_pos ho]; exact h
      · rw [if_neg ho]
        by_cases hcl : pAt cd L s.1.1 = 41 ∧ 0 < s.2.1.1 ∧ s.2.2.1 = false
        · rw [if_pos hcl]
          cases hd : pIn9 (pAt cd L (s.1.1 + 1)) 50 51
          · rw [if_neg (by decide)]; exact h
          · rw [if_pos rfl]
            refine (tGd_rp h _ (fun q => ?_)).1
            rcases Nat.lt_or_ge (nOf (s.2.1.2 (s.2.1.1 - 1))) s.1.2.1 with z | z
            · exact z
            · rw [show s.1.2.1 - nOf (s.2.1.2 (s.2.1.1 - 1)) = 0 by omega, Nat.zero_mul] at q
              exact absurd q (Nat.lt_irrefl 0)
        · rw [if_neg hcl]; exact h
    · rw [if_pos hx]
      exact tGd_ad h (ix_note (pAt_lt hc) hx).1
  · rw [if_neg h0]; exact h
theorem rtE_Gd {cd : Nat → Nat} {L a : Nat} (t o : Nat → Int32) (hc : ∀ i : Nat, i < L → cd i < 127) (ha : a ≤ L) : tGd (rtE cd L a t o).1.2.1 (rtE cd L a t o).1.2.2 := by
  have h : ∀ k : Nat, tGd (rt cd L ((a, 0, t), (0, o), true, 0) k).1.2.1 (rt cd L ((a, 0, t), (0, o), true, 0) k).1.2.2 := by
    intro k
    induction k with
    | zero => exact fun j _ hj => absurd hj (Nat.not_lt_zero j)
    | succ k ih => exact rt_Gd hc (rt_I ⟨ha, Nat.zero_le _, Nat.zero_le _, fun j hj => absurd hj (Nat.not_lt_zero j)⟩ k) ih
  exact h (L + 1)

