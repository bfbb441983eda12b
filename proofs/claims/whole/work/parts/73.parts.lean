/-! an evening's parts: the class's grammar beside the reference's reader -/
section NC
variable {cd : Nat → Nat} {L p q : Nat}
theorem nc_0 : ∀ i : Nat, p ≤ i → i < p → ¬ pAt cd L i = 44 := fun i h1 h2 => absurd h2 (by omega)
theorem nc_s (h : ∀ i : Nat, p ≤ i → i < q → ¬ pAt cd L i = 44) (hq : ¬ pAt cd L q = 44) : ∀ i : Nat, p ≤ i → i < q + 1 → ¬ pAt cd L i = 44 := by
  intro i h1 h2
  rcases Nat.lt_or_ge i q with z | z
  · exact h i h1 z
  · rw [show i = q by omega]; exact hq
end NC
/-- a part that can be read, or can't -/
def PSt (cd : Nat → Nat) (L p q : Nat) (b : Bool) : Prop :=
  (b = true → gMay (gS cd L 1 true q).1 (gS cd L 1 true q).2 = true ∧ ¬ (gS cd L 1 true q).1 = 0 ∧ (pAt cd L q = 44 → gS cd L 1 true (q + 1) = (1, 0)) ∧ (¬ pAt cd L q = 44 → (gS cd L 1 true (q + 1)).1 = 0) ∧ p < q) ∧
  (b = false → gMay (gS cd L 1 true q).1 (gS cd L 1 true q).2 = false ∧ ¬ (gS cd L 1 true q).1 = 0 ∧ (gS cd L 1 true (q + 1)).1 = 0) ∧
  ∀ i : Nat, p ≤ i → i < q → ¬ pAt cd L i = 44
section PST
variable {cd : Nat → Nat} {L p q : Nat}
theorem PSt_t (h : gMay (gS cd L 1 true q).1 (gS cd L 1 true q).2 = true) (h2 : ¬ (gS cd L 1 true q).1 = 0) (h3 : pAt cd L q = 44 → gS cd L 1 true (q + 1) = (1, 0)) (h4 : ¬ pAt cd L q = 44 → (gS cd L 1 true (q + 1)).1 = 0) (h5 : p < q) (h6 : ∀ i : Nat, p ≤ i → i < q → ¬ pAt cd L i = 44) : PSt cd L p q true := ⟨fun _ => ⟨h, h2, h3, h4, h5⟩, fun z => Bool.noConfusion z, h6⟩
theorem PSt_f (h : gMay (gS cd L 1 true q).1 (gS cd L 1 true q).2 = false) (h2 : ¬ (gS cd L 1 true q).1 = 0) (h3 : (gS cd L 1 true (q + 1)).1 = 0) (h6 : ∀ i : Nat, p ≤ i → i < q → ¬ pAt cd L i = 44) : PSt cd L p q false := ⟨fun z => Bool.noConfusion z, fun _ => ⟨h, h2, h3⟩, h6⟩
theorem PSt_13 (h : gS cd L 1 true q = (13, 0)) (h5 : p < q) (h6 : ∀ i : Nat, p ≤ i → i < q → ¬ pAt cd L i = 44) : PSt cd L p q true := by
  refine PSt_t (by rw [h]; rfl) (by rw [h]; decide) (fun z => ?_) (fun z => ?_) h5 h6
  · rw [gS_s, h, z]; rfl
  · rw [gS_s, h]
    exact if_neg z
/-- a digit is read, or none -/
theorem dig_t {a mo : Nat} (h : rnB cd L a mo = true) : (48 ≤ pAt cd L a ∧ pAt cd L a ≤ 57) ∧ pAt cd L a - 48 ≤ mo := by
  unfold rnB at h
  rw [Bool.and_eq_true, decide_eq_true_eq] at h
  exact ⟨in9_le h.1, h.2⟩
theorem dig_f {a mo : Nat} (h : rnB cd L a mo = false) : ¬ ((48 ≤ pAt cd L a ∧ pAt cd L a ≤ 57) ∧ pAt cd L a - 48 ≤ mo) := by
  intro z
  rw [rn_t (decide_eq_true z.1) z.2] at h
  cases h
theorem one_A {a mo : Nat} (h : rnB cd L a mo = true) (hm : mo ≤ 9) : rnA cd L a mo = a + 1 := (rn_1 h (rn_2f2 hm)).2
theorem not_A {a mo : Nat} (h : rnB cd L a mo = false) : rnA cd L a mo = a := (rn_no h).2
/-- a number up to 19: where it ends -/
theorem two_A {a : Nat} (h : rnB cd L a 19 = true) : (¬ pAt cd L a = 49 ∧ rnA cd L a 19 = a + 1) ∨ (pAt cd L a = 49 ∧ ¬ (48 ≤ pAt cd L (a + 1) ∧ pAt cd L (a + 1) ≤ 57) ∧ rnA cd L a 19 = a + 1) ∨ (pAt cd L a = 49 ∧ (48 ≤ pAt cd L (a + 1) ∧ pAt cd L (a + 1) ≤ 57) ∧ rnA cd L a 19 = a + 2) := by
  have hd := (dig_t h).1
  by_cases e : pAt cd L a = 49
  · by_cases e2 : 48 ≤ pAt cd L (a + 1) ∧ pAt cd L (a + 1) ≤ 57
    · exact Or.inr (Or.inr ⟨e, e2, (rn_22 h (rn_2t (by omega) (by decide) (decide_eq_true e2))).2⟩)
    · exact Or.inr (Or.inl ⟨e, e2, (rn_1 h (rn_2f3 (decide_eq_false e2))).2⟩)
  · exact Or.inl ⟨e, (rn_1 h (rn_2f1 (by omega))).2⟩
/-- what a number says -/
theorem num_v {a mo : Nat} (h : rnB cd L a mo = true) (hm : mo ≤ 19) : pNu cd L a (rnA cd L a mo - a) = nI (rnN cd L a mo) := by
  have hd := (dig_t h).1
  have h1 : ∀ c : Nat, 48 ≤ c → nI c - nI 48 = nI (c - 48) := by
    intro c hc
    have e : c = (c - 48) + 48 := by omega
    have e2 : nI c = nI (c - 48) + nI 48 := by rw [nI_add, ← e]
    rw [e2]
    exact Int32.add_sub_cancel _ _
  have p1 : pNu cd L a 1 = nI (pAt cd L a - 48) := by
    show nI 0 * nI 10 + (nI (pAt cd L (a + 0)) - nI 48) = _
    rw [show a + 0 = a from rfl, h1 _ hd.1, show nI 0 * nI 10 = nI 0 by decide, nI_add, Nat.zero_add]
  cases h2 : rn2 cd L a mo with
  | false =>
    rw [(rn_1 h h2).2, show a + 1 - a = 1 by omega, p1]
    unfold rnN
    rw [h2]
    rfl
  | true =>
    rw [(rn_22 h h2).2, show a + 2 - a = 2 by omega]
    unfold rn2 at h2
    rw [Bool.and_eq_true, Bool.and_eq_true, decide_eq_true_eq] at h2
    have e1 := in9_le h2.2.2
    have e0 := h2.1
    show pNu cd L a 1 * nI 10 + (nI (pAt cd L (a + 1)) - nI 48) = _
    rw [p1, e0, h1 _ e1.1, show nI 1 * nI 10 = nI 10 by decide, nI_add]
    unfold rnN
    have h3 : rn2 cd L a mo = true := by
      unfold rn2
      rw [decide_eq_true h2.1, h2.2.1, h2.2.2]
      rfl
    rw [if_pos h3, Nat.add_sub_assoc e1.1]
end PST
theorem part_st {cd : Nat → Nat} {L : Nat} {s : FE} (hc : ∀ i : Nat, i < L → cd i < 127) (hp : s.1 ≤ L) (hg : gS cd L 1 true s.1 = (1, 0)) : PSt cd L s.1 (rpS9 cd L s).1 (rpB cd L s) := by
  have hg1 : gS cd L 1 true (s.1 + 1) = (gSta (pAt cd L s.1), 0) := by rw [gS_s, hg]; rfl
  by_cases h33 : pAt cd L s.1 = 33
  · rw [(rp_33 h33).1, (rp_33 h33).2]
    show PSt cd L s.1 (s.1 + 1) true
    exact PSt_13 (by rw [hg1, h33]; rfl) (Nat.lt_succ_self _) (nc_s nc_0 (by omega))
  by_cases h107 : pAt cd L s.1 = 107
  · rw [(rp_107 h107).1, (rp_107 h107).2]
    rw [h107] at hg1
    have hn := nc_s (nc_0 (cd := cd) (L := L) (p := s.1)) (show ¬ pAt cd L s.1 = 44 by omega)
    show PSt cd L s.1 (rnA cd L (s.1 + 1) 6) (rnB cd L (s.1 + 1) 6)
    cases hB : rnB cd L (s.1 + 1) 6 with
    | true =>
      have hd := dig_t hB
      rw [one_A hB (by decide)]
      refine PSt_13 ?_ (by omega) (nc_s hn (by omega))
      rw [gS_s, hg1]
      show (if pIn9 (pAt cd L (s.1 + 1)) 48 54 then 13 else 0, 0) = (13, 0)
      rw [show pIn9 (pAt cd L (s.1 + 1)) 48 54 = true from decide_eq_true (by omega)]
      rfl
    | false =>
      have hd := dig_f hB
      rw [not_A hB]
      refine PSt_f (by rw [hg1]; rfl) (by rw [hg1]; decide) ?_ hn
      rw [gS_s, hg1]
      show (if pIn9 (pAt cd L (s.1 + 1)) 48 54 then 13 else 0) = 0
      rw [show pIn9 (pAt cd L (s.1 + 1)) 48 54 = false from decide_eq_false (by omega)]
      rfl
  by_cases h116 : pAt cd L s.1 = 116
  · rw [(rp_116 h116).1, (rp_116 h116).2]
    rw [h116] at hg1
    have hn := nc_s (nc_0 (cd := cd) (L := L) (p := s.1)) (show ¬ pAt cd L s.1 = 44 by omega)
    show PSt cd L s.1 (rnA cd L (s.1 + 1) 5) (rnB cd L (s.1 + 1) 5)
    cases hB : rnB cd L (s.1 + 1) 5 with
    | true =>
      have hd := dig_t hB
      rw [one_A hB (by decide)]
      refine PSt_13 ?_ (by omega) (nc_s hn (by omega))
      rw [gS_s, hg1]
      show (if pIn9 (pAt cd L (s.1 + 1)) 48 53 then 13 else 0, 0) = (13, 0)
      rw [show pIn9 (pAt cd L (s.1 + 1)) 48 53 = true from decide_eq_true (by omega)]
      rfl
    | false =>
      have hd := dig_f hB
      rw [not_A hB]
      refine PSt_f (by rw [hg1]; rfl) (by rw [hg1]; decide) ?_ hn
      rw [gS_s, hg1]
      show (if pIn9 (pAt cd L (s.1 + 1)) 48 53 then 13 else 0) = 0
      rw [show pIn9 (pAt cd L (s.1 + 1)) 48 53 = false from decide_eq_false (by omega)]
      rfl
  by_cases h119 : pAt cd L s.1 = 119
  · rw [(rp_119 h119).1, (rp_119 h119).2]
    rw [h119] at hg1
    have hn := nc_s (nc_0 (cd := cd) (L := L) (p := s.1)) (show ¬ pAt cd L s.1 = 44 by omega)
    show PSt cd L s.1 (rwA cd L (s.1 + 1)) (rwB cd L (s.1 + 1))
    cases hB : rnB cd L (s.1 + 1) 5 with
    | false =>
      have hd := dig_f hB
      have hC := rwC_f1 hB
      rw [rwA_f hC, rwB_f hC, not_A hB]
      refine PSt_f (by rw [hg1]; rfl) (by rw [hg1]; decide) ?_ hn
      rw [gS_s, hg1]
      show (if pIn9 (pAt cd L (s.1 + 1)) 48 53 then 8 else 0) = 0
      rw [show pIn9 (pAt cd L (s.1 + 1)) 48 53 = false from decide_eq_false (by omega)]
      rfl
    | true =>
      have hd := dig_t hB
      have hA := one_A hB (by decide)
      have hg2 : gS cd L 1 true (s.1 + 1 + 1) = (8, 0) := by
        rw [gS_s, hg1]
        show (if pIn9 (pAt cd L (s.1 + 1)) 48 53 then 8 else 0, 0) = (8, 0)
        rw [show pIn9 (pAt cd L (s.1 + 1)) 48 53 = true from decide_eq_true (by omega)]
        rfl
      have hn2 := nc_s hn (show ¬ pAt cd L (s.1 + 1) = 44 by omega)
      by_cases h58 : pAt cd L (s.1 + 1 + 1) = 58
      · have hC := rwC_t hB (by rw [hA]; exact h58)
        rw [rwA_t hC, rwB_t hC, hA]
        have hg3 : gS cd L 1 true (s.1 + 1 + 1 + 1) = (9, 0) := by rw [gS_s, hg2, h58]; rfl
        have hn3 := nc_s hn2 (show ¬ pAt cd L (s.1 + 1 + 1) = 44 by omega)
        cases hD : rnB cd L (s.1 + 1 + 1 + 1) 19 with
        | false =>
          have he := dig_f hD
          rw [not_A hD]
          refine PSt_f (by rw [hg3]; rfl) (by rw [hg3]; decide) ?_ hn3
          rw [gS_s, hg3]
          show (if pAt cd L (s.1 + 1 + 1 + 1) = 49 then 10 else if pIn9 (pAt cd L (s.1 + 1 + 1 + 1)) 48 57 then 13 else 0) = 0
          rw [if_neg (by omega), show pIn9 (pAt cd L (s.1 + 1 + 1 + 1)) 48 57 = false from decide_eq_false (by omega)]
          rfl
        | true =>
          have he := dig_t hD
          have hn4 := nc_s hn3 (show ¬ pAt cd L (s.1 + 1 + 1 + 1) = 44 by omega)
          rcases two_A hD with ⟨t1, t2⟩ | ⟨t1, t2, t3⟩ | ⟨t1, t2, t3⟩
          · rw [t2]
            refine PSt_13 ?_ (by omega) hn4
            rw [gS_s, hg3]
            show (if pAt cd L (s.1 + 1 + 1 + 1) = 49 then 10 else if pIn9 (pAt cd L (s.1 + 1 + 1 + 1)) 48 57 then 13 else 0, 0) = (13, 0)
            rw [if_neg t1, show pIn9 (pAt cd L (s.1 + 1 + 1 + 1)) 48 57 = true from decide_eq_true (by omega)]
            rfl
          · have hg4 : gS cd L 1 true (s.1 + 1 + 1 + 1 + 1) = (10, 0) := by rw [gS_s, hg3, t1]; rfl
            rw [t3]
            refine PSt_t (by rw [hg4]; rfl) (by rw [hg4]; decide) (fun z => ?_) (fun z => ?_) (by omega) hn4
            · rw [gS_s, hg4, z]; rfl
            · rw [gS_s, hg4]
              show (if pIn9 (pAt cd L (s.1 + 1 + 1 + 1 + 1)) 48 57 then 13 else gWh (pAt cd L (s.1 + 1 + 1 + 1 + 1)) 44 1) = 0
              rw [show pIn9 (pAt cd L (s.1 + 1 + 1 + 1 + 1)) 48 57 = false from decide_eq_false t2]
              exact if_neg z
          · have hg4 : gS cd L 1 true (s.1 + 1 + 1 + 1 + 1) = (10, 0) := by rw [gS_s, hg3, t1]; rfl
            rw [t3]
            refine PSt_13 ?_ (by omega) (nc_s hn4 (show ¬ pAt cd L (s.1 + 1 + 1 + 1 + 1) = 44 by omega))
            show gS cd L 1 true (s.1 + 1 + 1 + 1 + 1 + 1) = (13, 0)
            rw [gS_s, hg4]
            show (if pIn9 (pAt cd L (s.1 + 1 + 1 + 1 + 1)) 48 57 then 13 else gWh (pAt cd L (s.1 + 1 + 1 + 1 + 1)) 44 1, 0) = (13, 0)
            rw [show pIn9 (pAt cd L (s.1 + 1 + 1 + 1 + 1)) 48 57 = true from decide_eq_true t2]
            rfl
      · have hC : rwC cd L (s.1 + 1) = false := rwC_f2 (by rw [hA]; exact h58)
        rw [rwA_f hC, rwB_f hC, hA]
        refine PSt_f (by rw [hg2]; rfl) (by rw [hg2]; decide) ?_ hn2
        rw [gS_s, hg2]
        exact if_neg h58
  cases hB : rnB cd L s.1 19 with
  | false =>
    have hd := dig_f hB
    have hN := rp_n h33 h107 h116 h119 (rpC_f1 hB)
    rw [hN.1, hN.2]
    show PSt cd L s.1 (rnA cd L s.1 19) false
    rw [not_A hB]
    refine PSt_f (by rw [hg]; rfl) (by rw [hg]; decide) ?_ nc_0
    rw [hg1]
    show gSta (pAt cd L s.1) = 0
    unfold gSta
    rw [if_neg h33, if_neg h119, if_neg h116, if_neg h107, if_neg (by omega), show pIn9 (pAt cd L s.1) 48 57 = false from decide_eq_false (by omega)]
    rfl
  | true =>
    have hd := dig_t hB
    have hn := nc_s (nc_0 (cd := cd) (L := L) (p := s.1)) (show ¬ pAt cd L s.1 = 44 by omega)
    have hge := rnA_ge (cd := cd) (L := L) (a := s.1) (mo := 19)
    have key : s.1 < rnA cd L s.1 19 ∧ (∀ i : Nat, s.1 ≤ i → i < rnA cd L s.1 19 → ¬ pAt cd L i = 44) ∧ (gS cd L 1 true (rnA cd L s.1 19) = (3, 0) ∨ (gS cd L 1 true (rnA cd L s.1 19) = (2, 0) ∧ ¬ (48 ≤ pAt cd L (rnA cd L s.1 19) ∧ pAt cd L (rnA cd L s.1 19) ≤ 57))) := by
      rcases two_A hB with ⟨t1, t2⟩ | ⟨t1, t2, t3⟩ | ⟨t1, t2, t3⟩
      · rw [t2]
        refine ⟨by omega, hn, Or.inl ?_⟩
        rw [hg1]
        unfold gSta
        rw [if_neg h33, if_neg h119, if_neg h116, if_neg h107, if_neg t1, show pIn9 (pAt cd L s.1) 48 57 = true from decide_eq_true (by omega)]
        rfl
      · rw [t3]
        refine ⟨by omega, hn, Or.inr ⟨?_, t2⟩⟩
        rw [hg1, t1]
        rfl
      · rw [t3]
        refine ⟨by omega, nc_s hn (show ¬ pAt cd L (s.1 + 1) = 44 by omega), Or.inl ?_⟩
        have hg2 : gS cd L 1 true (s.1 + 1) = (2, 0) := by rw [hg1, t1]; rfl
        show gS cd L 1 true (s.1 + 1 + 1) = (3, 0)
        rw [gS_s, hg2]
        show (if pIn9 (pAt cd L (s.1 + 1)) 48 57 then 3 else gWh (pAt cd L (s.1 + 1)) 61 4, 0) = (3, 0)
        rw [show pIn9 (pAt cd L (s.1 + 1)) 48 57 = true from decide_eq_true t2]
        rfl
    obtain ⟨k1, k2, k3⟩ := key
    by_cases h61 : pAt cd L (rnA cd L s.1 19) = 61
    · have hC := rpC_t hB h61
      have hT := rp_t h33 h107 h116 h119 hC
      rw [hT.1, hT.2]
      have hlt := pAt_pos (cd := cd) (L := L) (a := rnA cd L s.1 19) (by omega)
      have hg4 : gS cd L 1 true (rnA cd L s.1 19 + 1) = (4, 0) := by
        rcases k3 with z | ⟨z, -⟩
        · rw [gS_s, z, h61]; rfl
        · rw [gS_s, z, h61]; rfl
      have hE := tu_end (cd := cd) (L := L) (a := rnA cd L s.1 19 + 1) (st := 1) (ev := true) (fun _ => 0) (fun _ => 0) s.2.2.2.2.2.1 s.2.2.2.2.2.2 hc (by omega) hg4
      show PSt cd L s.1 (rpE cd L s.1 s.2.2.2.2.2.1 s.2.2.2.2.2.2).1.1 (rtB (rpE cd L s.1 s.2.2.2.2.2.1 s.2.2.2.2.2.2))
      unfold rpE
      generalize rtE cd L (rnA cd L s.1 19 + 1) s.2.2.2.2.2.1 s.2.2.2.2.2.2 = v at hE ⊢
      obtain ⟨e1, e2, e3, e4⟩ := hE
      have hnc : ∀ i : Nat, s.1 ≤ i → i < v.1.1 → ¬ pAt cd L i = 44 := by
        intro i i1 i2
        rcases Nat.lt_or_ge i (rnA cd L s.1 19) with z | z
        · exact k2 i i1 z
        · rcases Nat.lt_or_ge i (rnA cd L s.1 19 + 1) with w | w
          · rw [show i = rnA cd L s.1 19 by omega]; omega
          · exact e4 i w i2
      cases hV : rtB v with
      | true =>
        obtain ⟨f1, -, f3⟩ := e1 hV
        refine PSt_t (by rw [f1]; rfl) (by rw [f1]; decide) (fun z => ?_) (fun z => f3 (fun w => z w.1)) (by omega) hnc
        rw [gS_s, f1, z]
        rfl
      | false =>
        obtain ⟨f1, f2, f3⟩ := e2 hV
        exact PSt_f f2 f1 f3 hnc
    · have hN := rp_n h33 h107 h116 h119 (rpC_f2 h61)
      rw [hN.1, hN.2]
      show PSt cd L s.1 (rnA cd L s.1 19) false
      rcases k3 with z | ⟨z, w⟩
      · refine PSt_f (by rw [z]; rfl) (by rw [z]; decide) ?_ k2
        rw [gS_s, z]
        exact if_neg h61
      · refine PSt_f (by rw [z]; rfl) (by rw [z]; decide) ?_ k2
        rw [gS_s, z]
        show (if pIn9 (pAt cd L (rnA cd L s.1 19)) 48 57 then 3 else gWh (pAt cd L (rnA cd L s.1 19)) 61 4) = 0
        rw [show pIn9 (pAt cd L (rnA cd L s.1 19)) 48 57 = false from decide_eq_false w]
        exact if_neg h61
/-! the first error of an evening -/
theorem fe_ge (cd : Nat → Nat) (L : Nat) (s0 : FE) (k : Nat) : feG cd L (fe cd L s0 k) = false ∨ s0.1 + k ≤ (fe cd L s0 k).1 := by
  induction k with
  | zero => exact Or.inr (Nat.le_refl _)
  | succ k ih =>
    rcases ih with h | h
    · left
      have e : fe cd L s0 (k + 1) = fe cd L s0 k := if_neg (by rw [h]; decide)
      rw [e]; exact h
    · cases hG : feG cd L (fe cd L s0 k) with
      | false =>
        left
        have e : fe cd L s0 (k + 1) = fe cd L s0 k := if_neg (by rw [hG]; decide)
        rw [e]; exact hG
      | true =>
        right
        have e : fe cd L s0 (k + 1) = ((rpS9 cd L (fe cd L s0 k)).1 + 1, (rpS9 cd L (fe cd L s0 k)).2) := if_pos hG
        rw [e]
        have h2 := rp_ge (cd := cd) (L := L) (s := fe cd L s0 k)
        show s0.1 + (k + 1) ≤ (rpS9 cd L (fe cd L s0 k)).1 + 1
        omega
theorem fe_st2 {cd : Nat → Nat} {L : Nat} {s0 : FE} (hc : ∀ i : Nat, i < L → cd i < 127) (h0 : s0.1 ≤ L) (hg : gS cd L 1 true s0.1 = (1, 0)) (k : Nat) : gS cd L 1 true (fe cd L s0 k).1 = (1, 0) := by
  induction k with
  | zero => exact hg
  | succ k ih =>
    have hP := part_st hc (fe_le h0 k) ih
    cases hG : feG cd L (fe cd L s0 k) with
    | false =>
      have e : fe cd L s0 (k + 1) = fe cd L s0 k := if_neg (by rw [hG]; decide)
      rw [e]; exact ih
    | true =>
      have e : fe cd L s0 (k + 1) = ((rpS9 cd L (fe cd L s0 k)).1 + 1, (rpS9 cd L (fe cd L s0 k)).2) := if_pos hG
      rw [e]
      unfold feG at hG
      rw [Bool.and_eq_true, Bool.and_eq_true, decide_eq_true_eq] at hG
      exact (hP.1 hG.1).2.2.1 hG.2.2
/-- at the end of the reference's reading -/
theorem fe_end {cd : Nat → Nat} {L : Nat} {s0 : FE} (hL : L ≤ 60) (hc : ∀ i : Nat, i < L → cd i < 127) (h0 : s0.1 ≤ L) (hg : gS cd L 1 true s0.1 = (1, 0)) :
    (feV cd L (fe cd L s0 L) = -1 → gEr cd L 1 true = L ∧ gMay (gS cd L 1 true L).1 (gS cd L 1 true L).2 = true) ∧
    (¬ feV cd L (fe cd L s0 L) = -1 → feV cd L (fe cd L s0 L) = nI (gEr cd L 1 true) ∧ ¬ (gEr cd L 1 true = L ∧ gMay (gS cd L 1 true L).1 (gS cd L 1 true L).2 = true)) := by
  have hP := part_st hc (fe_le (cd := cd) h0 L) (fe_st2 hc h0 hg L)
  have hG : feG cd L (fe cd L s0 L) = false ∨ (fe cd L s0 L).1 = L := by
    rcases fe_ge cd L s0 L with z | z
    · exact Or.inl z
    · have := fe_le (cd := cd) h0 L
      exact Or.inr (by omega)
  have hle := rp_le (cd := cd) (fe_le (cd := cd) h0 L)
  have hge := rp_ge (cd := cd) (L := L) (s := fe cd L s0 L)
  generalize fe cd L s0 L = s at hP hG hle hge ⊢
  cases hB : rpB cd L s with
  | true =>
    rw [hB] at hP
    obtain ⟨p1, p2, p3, p4, p5⟩ := hP.1 rfl
    by_cases hq : (rpS9 cd L s).1 = L
    · rw [feV_y hB hq]
      rw [hq] at p1 p2
      exact ⟨fun _ => ⟨er_L p2, p1⟩, fun z => absurd rfl z⟩
    · have h44 : ¬ pAt cd L (rpS9 cd L s).1 = 44 := by
        intro z
        rcases hG with g | g
        · unfold feG at g
          rw [hB, decide_eq_false hq, decide_eq_true z] at g
          exact absurd g (by decide)
        · omega
      have he := er_at p2 (by omega) (p4 h44)
      rw [feV_2 hq, he]
      exact ⟨fun z => absurd z (nI_ne1 (by omega)), fun _ => ⟨rfl, fun z => hq z.1⟩⟩
  | false =>
    rw [hB] at hP
    obtain ⟨p1, p2, p3⟩ := hP.2.1 rfl
    rw [feV_1 hB]
    by_cases hq : (rpS9 cd L s).1 = L
    · rw [hq] at p1 p2 ⊢
      rw [er_L p2]
      refine ⟨fun z => absurd z (nI_ne1 (by omega)), fun _ => ⟨rfl, fun z => ?_⟩⟩
      rw [p1] at z
      cases z.2
    · have he := er_at p2 (by omega) p3
      rw [he]
      exact ⟨fun z => absurd z (nI_ne1 (by omega)), fun _ => ⟨rfl, fun z => hq z.1⟩⟩
