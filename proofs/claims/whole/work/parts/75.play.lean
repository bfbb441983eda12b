/-! play: the class sign by sign, the reference part by part -/
section CV
variable {cd : Nat → Nat} {L : Nat}
theorem cv_q (hc : ∀ i : Nat, i < L → cd i < 127) (hE : ¬ (gS cd L 1 true L).1 = 0) (hM : gMay (gS cd L 1 true L).1 (gS cd L 1 true L).2 = true) {s : FE} {k : Nat} (hk : k ≤ L) (hs : s.1 ≤ k) (hg : gS cd L 1 true s.1 = (1, 0)) (hn : ∀ i : Nat, s.1 ≤ i → i < k → ¬ pAt cd L i = 44) (hx : k = L ∨ pAt cd L k = 44) :
    rpB cd L s = true ∧ (rpS9 cd L s).1 = k ∧ s.1 < k ∧ (pAt cd L k = 44 → gS cd L 1 true (k + 1) = (1, 0)) := by
  have hP := part_st hc (Nat.le_trans hs hk) hg
  have hle := rp_le (cd := cd) (s := s) (Nat.le_trans hs hk)
  cases hB : rpB cd L s with
  | false =>
    exfalso
    rw [hB] at hP
    obtain ⟨p1, p2, p3⟩ := hP.2.1 rfl
    rcases Nat.lt_or_ge (rpS9 cd L s).1 L with q | q
    · exact gS_n0 hE q p3
    · rw [show (rpS9 cd L s).1 = L by omega, hM] at p1
      cases p1
  | true =>
    rw [hB] at hP
    obtain ⟨p1, p2, p3, p4, p5⟩ := hP.1 rfl
    have hnc := hP.2.2
    have h44 : (rpS9 cd L s).1 < L → pAt cd L (rpS9 cd L s).1 = 44 := by
      intro q
      rcases Nat.decEq (pAt cd L (rpS9 cd L s).1) 44 with z | z
      · exact absurd (p4 z) (gS_n0 hE q)
      · exact z
    have hqk : (rpS9 cd L s).1 = k := by
      rcases Nat.lt_trichotomy (rpS9 cd L s).1 k with q | q | q
      · exact absurd (h44 (by omega)) (hn _ (by omega) q)
      · exact q
      · rcases hx with z | z
        · omega
        · exact absurd z (hnc k hs q)
    rw [hqk] at p3 p5
    exact ⟨rfl, hqk, p5, p3⟩
/-- class and reference in the midst of an evening -/
def CV (cd : Nat → Nat) (L : Nat) (Z : Nat → Nat → Int32) (sv : Nat) (s0 : PL) (y0 : PY) (B k : Nat) : Prop :=
  SI (B + k) (pl cd L s0 k).1.1 ∧
  ((pl cd L s0 k).2.1 = 0 → (pl cd L s0 k).2.2.2 ≤ k ∧ ((pl cd L s0 k).2.2.2 ≤ L → gS cd L 1 true (pl cd L s0 k).2.2.2 = (1, 0)) ∧ (∀ i : Nat, (pl cd L s0 k).2.2.2 ≤ i → i < k → ¬ pAt cd L i = 44) ∧ (k = L + 1 → (pl cd L s0 k).2.2.2 = L + 1)) ∧
  ∃ j : Nat, j ≤ k ∧ (py cd L Z sv y0 j).2.2.2 = (pl cd L s0 k).2.1 ∧ (py cd L Z sv y0 j).2.2.1 = (pl cd L s0 k).2.2.1 ∧ RS (pl cd L s0 k).1.1 (py cd L Z sv y0 j).2.1 ∧ ((pl cd L s0 k).2.1 = 0 → (py cd L Z sv y0 j).1.1 = (pl cd L s0 k).2.2.2)
theorem CV_s (hL : L ≤ 60) (hc : ∀ i : Nat, i < L → cd i < 127) (hE : ¬ (gS cd L 1 true L).1 = 0) (hM : gMay (gS cd L 1 true L).1 (gS cd L 1 true L).2 = true) {Z : Nat → Nat → Int32} {sv : Nat} {s0 : PL} {y0 : PY} {B k : Nat} (hB : B + 100 < 2 ^ 31) (hk : k ≤ L) (h : CV cd L Z sv s0 y0 B k) : CV cd L Z sv s0 y0 B (k + 1) := by
  obtain ⟨h1, h2, j, j0, j1, j2, j3, j4⟩ := h
  by_cases hr : (pl cd L s0 k).2.1 = 0
  · obtain ⟨a1, a2, a3, a4⟩ := h2 hr
    by_cases hx : k = L ∨ pAt cd L k = 44
    · have hy1 := j4 hr
      have hg := a2 (Nat.le_trans a1 hk)
      have hq := cv_q (s := (py cd L Z sv y0 j).1) hc hE hM hk (by rw [hy1]; exact a1) (by rw [hy1]; exact hg) (by rw [hy1]; exact a3) hx
      obtain ⟨q1, q2, q3, q4⟩ := hq
      have hP := part_eq (B := B + k) hL hc j3 h1 (by omega) (s := (py cd L Z sv y0 j).1) (by omega) (by rw [hy1]; exact hg) q1 Z sv (pl cd L s0 k).1.2.1 (pl cd L s0 k).1.2.2.1 (pl cd L s0 k).1.2.2.2
      rw [q2] at hP
      unfold PEq at hP
      rw [q2, hy1] at hP
      have hW : pyW cd L Z sv (py cd L Z sv y0 j) = (plP cd L k (pl cd L s0 k)).1 := by
        have e : pyW cd L Z sv (py cd L Z sv y0 j) = mPy (pyZ Z sv (rpS9 cd L (py cd L Z sv y0 j).1) (py cd L Z sv y0 j).2.1) (pAt cd L (py cd L Z sv y0 j).1.1) (pyFi cd L (py cd L Z sv y0 j).1) (pySe cd L (py cd L Z sv y0 j).1) (pyN cd L (py cd L Z sv y0 j).1) := if_pos q1
        rw [e, hy1]
        exact hP.1.symm
      have hyL : (py cd L Z sv y0 j).1.1 < L := by omega
      have hy0 : (py cd L Z sv y0 j).2.2.2 = 0 := j1.trans hr
      by_cases h0 : (plP cd L k (pl cd L s0 k)).1 = 0
      · obtain ⟨r1, r2, r3⟩ := hP.2.1 h0
        have hV : ¬ pyV cd L Z sv (py cd L Z sv y0 j) < 0 := by
          unfold pyV
          rw [hy1]
          exact r3
        have eL := pl_part0 cd L s0 k hr hx h0
        have eY := py_a (cd := cd) (L := L) (Z := Z) (sv := sv) (s0 := y0) (k := j) hy0 hyL (hW.trans h0) hV
        refine ⟨?_, fun _ => ?_, j + 1, by omega, ?_, ?_, ?_, fun _ => ?_⟩
        · rw [eL]
          exact r2
        · rw [eL]
          refine ⟨Nat.le_refl _, fun z => ?_, nc_0, fun z => z⟩
          have z : k + 1 ≤ L := z
          exact q4 (hx.resolve_left (by omega))
        · rw [eL, eY]
          exact hW
        · rw [eL, eY]
          show (py cd L Z sv y0 j).2.2.1 + nI 1 = (pl cd L s0 k).2.2.1 + nI 1
          rw [j2]
        · rw [eL, eY]
          show RS (plP cd L k (pl cd L s0 k)).2.1 (pyF cd L Z sv (py cd L Z sv y0 j))
          unfold pyF
          rw [hy1]
          exact r1
        · rw [eL, eY]
          show (rpS9 cd L (py cd L Z sv y0 j).1).1 + 1 = k + 1
          rw [q2]
      · have r1 := hP.2.2.1 h0
        have eL := pl_part1 cd L s0 k hr hx h0
        have eY := py_c (cd := cd) (L := L) (Z := Z) (sv := sv) (s0 := y0) (k := j) hy0 hyL (fun z => h0 (hW.symm.trans z))
        have hne : ¬ (pl cd L s0 (k + 1)).2.1 = 0 := by
          rw [eL]
          exact h0
        refine ⟨?_, fun z => absurd z hne, j + 1, by omega, ?_, ?_, ?_, fun z => absurd z hne⟩
        · rw [eL]
          show SI (B + (k + 1)) (plP cd L k (pl cd L s0 k)).2.1
          rw [show (plP cd L k (pl cd L s0 k)).2.1 = (pl cd L s0 k).1.1 from r1]
          exact h1.mono (by omega)
        · rw [eL, eY]
          exact hW
        · rw [eL, eY]
          show (py cd L Z sv y0 j).2.2.1 + nI 0 = (pl cd L s0 k).2.2.1 + nI 0
          rw [j2]
        · rw [eL, eY]
          show RS (plP cd L k (pl cd L s0 k)).2.1 (py cd L Z sv y0 j).2.1
          rw [show (plP cd L k (pl cd L s0 k)).2.1 = (pl cd L s0 k).1.1 from r1]
          exact j3
    · have hkL : ¬ k = L := fun z => hx (Or.inl z)
      have e := pl_skip cd L s0 k hr hkL (fun z => hx (Or.inr z))
      refine ⟨by rw [e]; exact h1.mono (by omega), fun _ => ?_, j, by omega, ?_, ?_, ?_, ?_⟩
      · rw [e]
        exact ⟨by omega, a2, nc_s a3 (fun z => hx (Or.inr z)), fun z => absurd z (by omega)⟩
      · rw [e]; exact j1
      · rw [e]; exact j2
      · rw [e]; exact j3
      · rw [e]; exact j4
  · have e := pl_stop cd L s0 k hr
    refine ⟨by rw [e]; exact h1.mono (by omega), fun z => ?_, j, by omega, ?_, ?_, ?_, ?_⟩
    · rw [e] at z; exact absurd z hr
    · rw [e]; exact j1
    · rw [e]; exact j2
    · rw [e]; exact j3
    · rw [e]; exact j4
theorem py_stay {Z : Nat → Nat → Int32} {sv : Nat} {y0 : PY} {j : Nat} (h : ¬ (py cd L Z sv y0 j).2.2.2 = 0 ∨ ¬ (py cd L Z sv y0 j).1.1 < L) (i : Nat) : py cd L Z sv y0 (j + i) = py cd L Z sv y0 j := by
  induction i with
  | zero => rfl
  | succ i ih =>
    have e : py cd L Z sv y0 (j + i + 1) = py cd L Z sv y0 (j + i) := if_neg (fun z => by
      rw [ih] at z
      rcases h with h | h
      · exact h z.1
      · exact h z.2)
    exact e.trans ih
theorem RS.stop {B : Nat} {S : Nat → Nat → Int32} {st : Nat → Int32} (hR : RS S st) (hI : SI B S) (v w : Int32) : RS (sa S 16 (upd (upd (S 16) 0 v) 1 w)) (upd (upd st 12 v) 13 w) := by
  obtain ⟨a, b, c, d, e, f, g, i, j⟩ := hR
  refine ⟨?_, fun r hr => ?_, fun m hm => ?_, fun m k hm hk => ?_, fun k hk => ?_, fun k hk => ?_, fun m i hm hi => ?_, fun r hr => ?_, ?_⟩
  · simp (disch := omega) only [sa_ne, upd_no]; exact a
  · simp (disch := omega) only [sa_ne, upd_no]; exact b r hr
  · simp (disch := omega) only [sa_ne, upd_no]; exact c m hm
  · rw [sa_ne (j := 6) (by decide)] at hk
    simp (disch := omega) only [sa_ne, upd_no]; exact d m k hm hk
  · simp (disch := omega) only [sa_ne, upd_no]; exact e k hk
  · rw [sa_at]
    rcases (show k = 0 ∨ k = 1 by omega) with rfl | rfl <;> rfl
  · simp (disch := omega) only [sa_ne, upd_no]; exact g m i hm hi
  · simp (disch := omega) only [sa_ne, upd_no]; exact i r hr
  · simp (disch := omega) only [sa_ne, upd_no]; exact j
/-- all of play -/
theorem play_eq (hL : L ≤ 60) (hc : ∀ i : Nat, i < L → cd i < 127) (hE : gEr cd L 1 true = L) (hM : gMay (gS cd L 1 true L).1 (gS cd L 1 true L).2 = true) {Z : Nat → Nat → Int32} {sv B : Nat} {fs : FE} {s0 : PL} (hs : s0.2.1 = nI 0) (hp : s0.2.2.1 = nI 0) (ha : s0.2.2.2 = 0) (hB : B + 100 < 2 ^ 31) (hR : RS s0.1.1 (Z 2)) (hI : SI B s0.1.1) :
    (∀ k : Nat, k ≤ L + 1 → CV cd L Z sv s0 (py0 cd L Z fs) B k) ∧
    (py cd L Z sv (py0 cd L Z fs) (L + 1)).2.2.1 = (pl cd L s0 (L + 1)).2.2.1 ∧
    RS (plE (pl cd L s0 (L + 1))) (upd (upd (py cd L Z sv (py0 cd L Z fs) (L + 1)).2.1 12 (if (py cd L Z sv (py0 cd L Z fs) (L + 1)).2.2.2 = 0 then -1 else (py cd L Z sv (py0 cd L Z fs) (L + 1)).2.2.1)) 13 (if (py cd L Z sv (py0 cd L Z fs) (L + 1)).2.2.2 = 0 then -1 else (py cd L Z sv (py0 cd L Z fs) (L + 1)).2.2.2)) ∧
    SI (B + 100) (plE (pl cd L s0 (L + 1))) := by
  have hE2 : ¬ (gS cd L 1 true L).1 = 0 := by
    intro z
    rw [z] at hM
    have hM := of_decide_eq_true hM
    omega
  have hall : ∀ k : Nat, k ≤ L + 1 → CV cd L Z sv s0 (py0 cd L Z fs) B k := by
    intro k
    induction k with
    | zero =>
      refine fun _ => ⟨hI, fun _ => ⟨?_, fun _ => ?_, fun i h1 h2 => absurd h2 (Nat.not_lt_zero i), fun z => absurd z (by omega)⟩, 0, Nat.le_refl 0, hs.symm, hp.symm, hR, fun _ => ha.symm⟩
      · show s0.2.2.2 ≤ 0
        omega
      · show gS cd L 1 true s0.2.2.2 = (1, 0)
        rw [ha]
        rfl
    | succ k ih => exact fun hk => CV_s hL hc hE2 hM hB (by omega) (ih (by omega))
  obtain ⟨h1, h2, j, j0, j1, j2, j3, j4⟩ := hall (L + 1) (Nat.le_refl _)
  have hst : py cd L Z sv (py0 cd L Z fs) (L + 1) = py cd L Z sv (py0 cd L Z fs) j := by
    have h9 : py cd L Z sv (py0 cd L Z fs) (j + (L + 1 - j)) = py cd L Z sv (py0 cd L Z fs) j := by
      refine py_stay ?_ _
      by_cases z : (pl cd L s0 (L + 1)).2.1 = 0
      · right
        rw [j4 z, (h2 z).2.2.2 rfl]
        omega
      · left
        rw [j1]
        exact z
    rw [show j + (L + 1 - j) = L + 1 by omega] at h9
    exact h9
  rw [hst]
  refine ⟨hall, j2, ?_, ?_⟩
  · rw [j1, j2]
    exact j3.stop h1 _ _
  · obtain ⟨a0, a1, a2, a3, a4, a5, g, i, jj⟩ := h1.mono (B' := B + 100) (by omega)
    exact ⟨a0, a1, a2, a3, a4, a5, g, i, jj⟩
end CV
