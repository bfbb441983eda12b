/-! the school beside the law's numbers: what each look answers -/
def stM (fq ft fr fb : Nat → Int32) (tn : Nat → Nat) (j : Nat) : Int32 :=
  if j < 12 then fq j else if j < 14 then -1 else if j < 44 then fr (j - 14) else if j < 47 then fb (j - 44)
  else if (j - 47) % 11 = 0 then nI (uMy (tn ((j - 47) / 11))) else if (j - 47) % 11 = 1 then ft (20 + (j - 47) / 11) else if (j - 47) % 11 = 2 then ft (40 + (j - 47) / 11)
  else nI (uNt (tn ((j - 47) / 11)) ((j - 47) % 11 - 3))
section STM
variable {fq ft fr fb : Nat → Int32} {tn : Nat → Nat}
theorem sm_q {j : Nat} (h : j < 12) : stM fq ft fr fb tn j = fq j := if_pos h
theorem sm_s {j : Nat} (h1 : 12 ≤ j) (h : j < 14) : stM fq ft fr fb tn j = -1 := by
  unfold stM
  rw [if_neg (by omega), if_pos h]
theorem sm_r {i : Nat} (h : i < 30) : stM fq ft fr fb tn (14 + i) = fr i := by
  unfold stM
  rw [if_neg (by omega), if_neg (by omega), if_pos (by omega), show 14 + i - 14 = i from by omega]
theorem sm_b {i : Nat} (h : i < 3) : stM fq ft fr fb tn (44 + i) = fb i := by
  unfold stM
  rw [if_neg (by omega), if_neg (by omega), if_neg (by omega), if_pos (by omega), show 44 + i - 44 = i from by omega]
theorem sm_0 (m : Nat) : stM fq ft fr fb tn (47 + 11 * m) = nI (uMy (tn m)) := by
  unfold stM
  rw [if_neg (by omega), if_neg (by omega), if_neg (by omega), if_neg (by omega), if_pos (by omega), show (47 + 11 * m - 47) / 11 = m from by omega]
theorem sm_1 (m : Nat) : stM fq ft fr fb tn (47 + 11 * m + 1) = ft (20 + m) := by
  unfold stM
  rw [if_neg (by omega), if_neg (by omega), if_neg (by omega), if_neg (by omega), if_neg (by omega), if_pos (by omega), show (47 + 11 * m + 1 - 47) / 11 = m from by omega]
theorem sm_2 (m : Nat) : stM fq ft fr fb tn (47 + 11 * m + 2) = ft (40 + m) := by
  unfold stM
  rw [if_neg (by omega), if_neg (by omega), if_neg (by omega), if_neg (by omega), if_neg (by omega), if_neg (by omega), if_pos (by omega), show (47 + 11 * m + 2 - 47) / 11 = m from by omega]
theorem sk_n {k : Nat} (m : Nat) (h : k < 8) : stM fq ft fr fb tn (47 + 11 * m + (3 + k)) = nI (uNt (tn m) k) := by
  unfold stM
  rw [if_neg (by omega), if_neg (by omega), if_neg (by omega), if_neg (by omega), if_neg (by omega), if_neg (by omega), if_neg (by omega), show (47 + 11 * m + (3 + k) - 47) / 11 = m from by omega, show (47 + 11 * m + (3 + k) - 47) % 11 - 3 = k from by omega]
end STM
/-- school and numbers belong together -/
def JM (B : Nat) (S : Nat → Nat → Int32) (fq ft fr fb : Nat → Int32) (tn : Nat → Nat) : Prop :=
  SI B S ∧ RS S (stM fq ft fr fb tn) ∧ (∀ i : Nat, i < 20 → ft i = nI (tn i)) ∧ ∀ i : Nat, i < 20 → tn i < 167772160 ∧ (uMy (tn i) = 0 → tn i = 0)
section JM
variable {B : Nat} {S : Nat → Nat → Int32} {fq ft fr fb : Nat → Int32} {tn : Nat → Nat}
theorem jm_0 (h : JM B S fq ft fr fb tn) : S 0 0 = fq 0 ∧ S 0 1 = fq 1 ∧ S 0 2 = fq 2 ∧ S 5 0 = fq 3 ∧ S 5 1 = fq 4 := by
  obtain ⟨a, b, c, d, e⟩ := h.2.1.1
  exact ⟨a.trans (sm_q (by decide)), b.trans (sm_q (by decide)), c.trans (sm_q (by decide)), d.trans (sm_q (by decide)), e.trans (sm_q (by decide))⟩
theorem jm_r (h : JM B S fq ft fr fb tn) {r : Nat} (hr : r < 6) : S 11 r = fr (5 * r) ∧ S 12 r = fr (5 * r + 1) ∧ S 13 r = fr (5 * r + 3) ∧ S 14 r = fr (5 * r + 4) ∧ fr (5 * r + 2) = bI (pHB (S 0 3) (nI r)) := by
  obtain ⟨a, b, c, d⟩ := h.2.1.2.1 r hr
  have e := h.2.1.2.2.2.2.2.2.2.1 r hr
  rw [Nat.add_assoc, sm_r (by omega)] at b c d e
  rw [sm_r (by omega)] at a
  exact ⟨a, b, c, d, e⟩
theorem jm_m (h : JM B S fq ft fr fb tn) {m : Nat} (hm : m < 20) : S 6 m = nI (uMy (tn m)) ∧ S 9 m = ft (20 + m) ∧ S 10 m = ft (40 + m) := by
  obtain ⟨a, b, c⟩ := h.2.1.2.2.1 m hm
  rw [sm_0] at a
  rw [sm_1] at b
  rw [sm_2] at c
  exact ⟨a, b, c⟩
theorem jm_tl (h : JM B S fq ft fr fb tn) {m : Nat} (hm : m < 20) : tlF S m = uMy (tn m) ∧ uMy (tn m) ≤ 8 ∧ uMy (tn m) ≠ 1 := by
  have h1 := (jm_m h hm).1
  have h2 := uMy_9 (h.2.2.2 m hm).1
  have h3 : nOf (S 6 m) = uMy (tn m) := by rw [h1, nOf_n (by omega)]
  obtain ⟨-, h4, h5⟩ := (h.1.2.2.2.2.2.2.1 m hm).1
  rw [h3] at h4 h5
  exact ⟨h3, h4, h5⟩
theorem jm_n (h : JM B S fq ft fr fb tn) {m k : Nat} (hm : m < 20) (hk : k < uMy (tn m)) : S 7 (m * 8 + k) = nI (uNt (tn m) k) ∧ uNt (tn m) k < 7 := by
  obtain ⟨h1, h2, h3⟩ := jm_tl h hm
  have h5 := h.2.1.2.2.2.1 m k hm (by rw [show nOf (S 6 m) = uMy (tn m) from h1]; exact hk)
  rw [sk_n m (by omega)] at h5
  have h6 := ((h.1.2.2.2.2.2.2.1 m hm).2.2 k (by rw [show nOf (S 6 m) = uMy (tn m) from h1]; exact hk)).2
  rw [h5, nOf_n (by have := uNt_lt (tn m) k; omega)] at h6
  exact ⟨h5, h6⟩
theorem jm_b (h : JM B S fq ft fr fb tn) {m i : Nat} (hm : m < 20) (hi : i < 3) : pHB (S 8 m) (nI i) = decide (iShr (fb i) (nI m) &&& nI 1 = nI 1) := by
  have h1 := h.2.1.2.2.2.2.2.2.1 m i hm hi
  rwa [sm_b hi] at h1
theorem jm_l (h : JM B S fq ft fr fb tn) {k : Nat} (hk : k < 6) : S 15 k = fq (6 + k) := (h.2.1.2.2.2.2.1 k hk).trans (sm_q (by omega))
theorem jm_5 (h : JM B S fq ft fr fb tn) : fq 5 = pSm (S 9) 20 := (sm_q (by decide)).symm.trans h.2.1.2.2.2.2.2.2.2.2
theorem jm_z (h : JM B S fq ft fr fb tn) {m : Nat} (hm : m < 20) : S 6 m = 0 ↔ tn m = 0 := by
  rw [(jm_m h hm).1]
  have h1 := (h.2.2.2 m hm).2
  have h2 := uMy_9 (h.2.2.2 m hm).1
  constructor
  · intro q
    exact h1 ((nI_eq (by omega) (by decide)).mp (q.trans nI_0.symm))
  · intro q
    rw [q]
    rfl
/-- the floors -/
theorem fl2_all : ∀ (a : Fin 3) (b : Fin 8) (f : Fin 3), pFHo (tSx a.val b.val) (2 * f.val) 3 = (vFn (nI b.val) (nI a.val) f.val 4).1 ∧ (vFn (nI b.val) (nI a.val) f.val 4).1 = nI (nOf (vFn (nI b.val) (nI a.val) f.val 4).1) ∧ nOf (vFn (nI b.val) (nI a.val) f.val 4).1 < 8 := by decide +kernel
theorem jfl (h : JM B S fq ft fr fb tn) {r : Nat} (hr : r < 6) : pFHo S r 3 = vFl fq (r / 2) ∧ vFl fq (r / 2) = nI (nOf (vFl fq (r / 2))) ∧ nOf (vFl fq (r / 2)) < 8 := by
  obtain ⟨-, -, r2, r3, -⟩ := jm_0 h
  obtain ⟨-, -, ⟨i2, i3⟩, -, ⟨i4, i5⟩, -⟩ := h.1
  have h1 := fl2_all ⟨nOf (S 5 0), i5⟩ ⟨nOf (S 0 2), i3⟩ ⟨r / 2, by omega⟩
  have e1 : pFHo S r 3 = pFHo (tSx (nOf (S 5 0)) (nOf (S 0 2))) (2 * (r / 2)) 3 := (pFHo_e (P := tSx (nOf (S 5 0)) (nOf (S 0 2))) i4 i2 r 3).trans (pFHo_r (by omega) 3)
  have e2 : vFl fq (r / 2) = (vFn (nI (nOf (S 0 2))) (nI (nOf (S 5 0))) (r / 2) 4).1 := by
    unfold vFl
    rw [← r2, ← r3, ← i2, ← i4]
  rw [e1, e2]
  exact h1
/-- who hears -/
def hbF (F : Int32) (r k : Nat) : Bool := !decide (k = r) && decide (iShr F (nI (k / 2)) &&& nI 1 = nI 1)
theorem vB1_0 (F : Int32) (r m k : Nat) : vB1 F fq fr r m 0 k = heF F r k := by
  induction k with
  | zero => rfl
  | succ k ih =>
    show vB1 F fq fr r m 0 k ||| vBc F fq fr r m 0 k = heF F r k ||| _
    rw [ih]
    unfold vBc vBi vBj
    by_cases h1 : k = r <;> by_cases h2 : iShr F (nI (k / 2)) &&& nI 1 = nI 1 <;> simp [h1, h2]
theorem jhe (h : JM B S fq ft fr fb tn) {r : Nat} (hr : r < 6) (m : Nat) : pHe S r = vBr fq fr fb r m 0 ∧ x6 (pHe S r) := by
  obtain ⟨h1, h2, h3⟩ := jfl h hr
  have h4 := he_all ⟨nOf (vFl fq (r / 2)), h3⟩ ⟨r, hr⟩
  simp only [← h2] at h4
  have e : vBr fq fr fb r m 0 = heF (vFl fq (r / 2)) r 6 := (if_neg (by decide)).trans (vB1_0 _ r m 6)
  have e2 : pHe S r = heF (vFl fq (r / 2)) r 6 := by
    unfold pHe
    rw [h1]
    exact h4.1
  rw [e, e2]
  exact ⟨rfl, _, h4.2.2, h4.2.1⟩
/-- who understands -/
theorem ce_all : ∀ (c0 c1 c2 c3 c4 c5 e0 e1 e2 e3 e4 e5 : Bool), caF (ef c0 c1 c2 c3 c4 c5) (fun _ => true) 6 &&& rkF (ef e0 e1 e2 e3 e4 e5) 6 = caF (ef c0 c1 c2 c3 c4 c5) (ef e0 e1 e2 e3 e4 e5) 6 := by decide +kernel
theorem ce_any (c e : Nat → Bool) : caF c (fun _ => true) 6 &&& rkF e 6 = caF c e 6 := by
  have h1 := ce_all (c 0) (c 1) (c 2) (c 3) (c 4) (c 5) (e 0) (e 1) (e 2) (e 3) (e 4) (e 5)
  rw [caF_c (b := ef (c 0) (c 1) (c 2) (c 3) (c 4) (c 5)) (b' := c) (c := fun _ => true) (c' := fun _ => true) (n := 6) (fun k hk => ⟨ef_e c hk, rfl⟩), rkF_c (e := ef (e 0) (e 1) (e 2) (e 3) (e 4) (e 5)) (e' := e) (n := 6) (fun k hk => ef_e e hk), caF_c (b := ef (c 0) (c 1) (c 2) (c 3) (c 4) (c 5)) (b' := c) (c := ef (e 0) (e 1) (e 2) (e 3) (e 4) (e 5)) (c' := e) (n := 6) (fun k hk => ⟨ef_e c hk, ef_e e hk⟩)] at h1
  exact h1
theorem heF_ca (F : Int32) (r k : Nat) : heF F r k = caF (hbF F r) (fun _ => true) k := by
  induction k with
  | zero => rfl
  | succ k ih =>
    show heF F r k ||| _ = caF (hbF F r) (fun _ => true) k ||| _
    rw [ih]
    unfold hbF
    rw [Bool.and_true]
theorem vB1_ca (F : Int32) (r m w k : Nat) (hw : w ≠ 0) : vB1 F fq fr r m w k = caF (hbF F r) (fun k => decide (fr (5 * k) = fr (5 * r)) && vBj fq fr r m w) k := by
  induction k with
  | zero => rfl
  | succ k ih =>
    show vB1 F fq fr r m w k ||| vBc F fq fr r m w k = caF _ _ k ||| _
    rw [ih]
    unfold vBc vBi hbF
    congr 1
    by_cases h1 : k = r <;> by_cases h2 : iShr F (nI (k / 2)) &&& nI 1 = nI 1 <;> by_cases h3 : fr (5 * k) = fr (5 * r) <;> simp [h1, h2, h3, hw]
theorem caF_0 {b c : Nat → Bool} (h : ∀ k, c k = false) (n : Nat) : caF b c n = nI 0 := by
  induction n with
  | zero => rfl
  | succ n ih =>
    show caF b c n ||| (if b n && c n then iShl (nI 1) (nI n) else nI 0) = nI 0
    rw [ih, h n, Bool.and_false, if_neg (by decide)]
    decide
theorem jun (h : JM B S fq ft fr fb tn) {r : Nat} (hr : r < 6) (m : Nat) : pUn S r = vBr fq fr fb r m 1 ∧ x6 (pUn S r) := by
  obtain ⟨h1, h2⟩ := jhe (fb := fb) h hr m
  obtain ⟨n, hn, h3⟩ := h2
  obtain ⟨f1, f2, f3⟩ := jfl h hr
  have h4 := he_all ⟨nOf (vFl fq (r / 2)), f3⟩ ⟨r, hr⟩
  simp only [← f2] at h4
  have e2 : pHe S r = caF (hbF (vFl fq (r / 2)) r) (fun _ => true) 6 := by
    unfold pHe
    rw [f1, ← heF_ca]
    exact h4.1
  have e3 : pRK S (S 11 r) 6 = rkF (fun k => decide (fr (5 * k) = fr (5 * r))) 6 := by
    have e4 : ∀ k : Nat, k ≤ 6 → pRK S (S 11 r) k = rkF (fun k => decide (fr (5 * k) = fr (5 * r))) k := by
      intro k hk
      induction k with
      | zero => rfl
      | succ k ih =>
        simp only [pRK, rkF]
        rw [ih (by omega), (jm_r h (r := k) (by omega)).1, (jm_r h hr).1]
        by_cases h5 : fr (5 * k) = fr (5 * r)
        · simp only [if_pos h5, decide_eq_true h5, if_true]
        · simp only [if_neg h5, decide_eq_false h5, Bool.false_eq_true, if_false]
    exact e4 6 (Nat.le_refl _)
  have e5 : vBr fq fr fb r m 1 = caF (hbF (vFl fq (r / 2)) r) (fun k => decide (fr (5 * k) = fr (5 * r))) 6 := by
    unfold vBr
    rw [if_neg (by decide), vB1_ca _ r m 1 6 (by decide)]
    refine caF_c (fun k hk => ⟨rfl, ?_⟩)
    unfold vBj
    simp
  have e6 : pUn S r = vBr fq fr fb r m 1 := by
    unfold pUn
    rw [e2, e3, e5, ce_any]
  refine ⟨e6, ?_⟩
  have h7 := kn_any (fun k => decide (fr (5 * k) = fr (5 * r))) hn
  unfold pUn
  rw [e3, h3, h7.1]
  exact ⟨_, h7.2.2, h7.2.1⟩
/-- which masters catch it -/
theorem bz_sh : ∀ (b : Bool) (k : Fin 3), iShl (bI b) (nI k.val) = if b = true then iShl (nI 1) (nI k.val) else nI 0 := by decide +kernel
theorem bz_and : ∀ a b : Bool, bI a &&& bI b = bI (a && b) := by decide
theorem a1_and (x y : Int32) : (x &&& y) &&& nI 1 = (x &&& nI 1) &&& (y &&& nI 1) := by
  apply Int32.toBitVec_inj.1
  show (x.toBitVec &&& y.toBitVec) &&& (nI 1).toBitVec = (x.toBitVec &&& (nI 1).toBitVec) &&& (y.toBitVec &&& (nI 1).toBitVec)
  apply BitVec.eq_of_getLsbD_eq
  intro i hi
  simp only [BitVec.getLsbD_and]
  cases x.toBitVec.getLsbD i <;> cases y.toBitVec.getLsbD i <;> cases (nI 1).toBitVec.getLsbD i <;> rfl
theorem vB2_ca (F : Int32) (m : Nat) {k : Nat} (hk : k ≤ 3) : vB2 F fq fb m k = caF (fun k => pHB F (iRem (nI k + fq 0) (nI 3))) (fun k => pHB (fb k) (nI m)) k := by
  induction k with
  | zero => rfl
  | succ k ih =>
    show vB2 F fq fb m k ||| iShl ((iShr F (iRem (nI k + fq 0) (nI 3)) &&& iShr (fb k) (nI m)) &&& nI 1) (nI k) = caF _ _ k ||| _
    rw [ih (by omega), a1_and, hb_bit, hb_bit, bz_and, bz_sh _ ⟨k, by omega⟩]
theorem jca (h : JM B S fq ft fr fb tn) {r m : Nat} (hr : r < 6) (hm : m < 20) : pCa S r m = vBr fq fr fb r m 2 ∧ x6 (pCa S r m) := by
  obtain ⟨h1, h2, h3⟩ := jfl h hr
  have h0 := (jm_0 h).1
  obtain ⟨i1, i2⟩ := (h.1.2.2.2.2.2.2.1 m hm).2.1
  generalize hbb : (fun k : Nat => pHB (vFl fq (r / 2)) (iRem (nI k + fq 0) (nI 3))) = b
  have h4 := ca_all (b 0) (b 1) (b 2) ⟨nOf (S 8 m), i2⟩
  simp only [← i1] at h4
  have e1 : rkF (ef (b 0) (b 1) (b 2) (b 2) (b 2) (b 2)) 3 = rkF b 3 := rkF_c (fun k hk => by rcases (show k = 0 ∨ k = 1 ∨ k = 2 by omega) with rfl | rfl | rfl <;> rfl)
  have e2 : caF (ef (b 0) (b 1) (b 2) (b 2) (b 2) (b 2)) (fun k => pHB (S 8 m) (nI k)) 3 = vBr fq fr fb r m 2 := by
    unfold vBr
    rw [if_pos rfl, vB2_ca _ m (Nat.le_refl _), hbb]
    refine caF_c (fun k hk => ⟨?_, ?_⟩)
    · rcases (show k = 0 ∨ k = 1 ∨ k = 2 by omega) with rfl | rfl | rfl <;> rfl
    · rw [jm_b h hm hk]
      rfl
  rw [e1, e2] at h4
  have e3 : pCa S r m = vBr fq fr fb r m 2 := by
    unfold pCa
    rw [h1, pMO_e, h0, hbb]
    exact h4.1
  refine ⟨e3, ?_⟩
  rw [e3]
  exact ⟨_, Nat.lt_trans h4.2.2 (by decide), h4.2.1⟩
/-- who is raised -/
theorem jra (h : JM B S fq ft fr fb tn) {r m : Nat} (hr : r < 6) : pRa S r m = vBr fq fr fb r m 3 ∧ x6 (pRa S r m) := by
  obtain ⟨h1, h2⟩ := jun (fb := fb) h hr m
  have e0 : vBr fq fr fb r m 3 = caF (hbF (vFl fq (r / 2)) r) (fun k => decide (fr (5 * k) = fr (5 * r)) && vBj fq fr r m 3) 6 := by
    unfold vBr
    rw [if_neg (by decide), vB1_ca _ r m 3 6 (by decide)]
  have e1 : vBr fq fr fb r m 1 = caF (hbF (vFl fq (r / 2)) r) (fun k => decide (fr (5 * k) = fr (5 * r)) && vBj fq fr r m 1) 6 := by
    unfold vBr
    rw [if_neg (by decide), vB1_ca _ r m 1 6 (by decide)]
  unfold pRa
  rw [(jm_r h hr).1, (jm_0 h).2.1]
  by_cases h3 : 12 ≤ m ∧ fr (5 * r) = fq 1
  · rw [if_pos h3]
    refine ⟨?_, h2⟩
    rw [h1, e0, e1]
    refine caF_c (fun k hk => ⟨rfl, ?_⟩)
    unfold vBj
    rw [decide_eq_true (show (1 : Nat) < 3 ∨ 11 < m ∧ fr (5 * r) = fq 1 from Or.inl (by decide)), decide_eq_true (show (3 : Nat) < 3 ∨ 11 < m ∧ fr (5 * r) = fq 1 from Or.inr ⟨by omega, h3.2⟩)]
  · rw [if_neg h3]
    refine ⟨?_, 0, by decide, rfl⟩
    rw [e0, caF_0 (fun k => ?_) 6]
    unfold vBj
    rw [decide_eq_false (show ¬ ((3 : Nat) < 3 ∨ 11 < m ∧ fr (5 * r) = fq 1) from fun q => q.elim (by decide) (fun q => h3 ⟨by omega, q.2⟩)), Bool.and_false]
/-- why not -/
theorem jwy (h : JM B S fq ft fr fb tn) {r m : Nat} (hr : r < 6) (hm : m < 20) : pWhy S r m = vWy fq fr tn r m := by
  have hz := jm_z h hm
  have h1 := (jm_r h hr).2.1
  have h2 := (jm_0 h).2.2.2.2
  unfold pWhy vWy pSil
  rw [h1, h2]
  by_cases h3 : fr (5 * r + 1) < fq 4
  · rw [decide_eq_false (not_not_intro h3), if_neg (by decide), if_neg (not_not_intro h3)]
    by_cases h4 : tn m = 0
    · rw [if_pos h4, if_pos (hz.mpr h4)]
    · rw [if_neg h4, if_neg (fun q => h4 (hz.mp q))]
  · rw [decide_eq_true h3, if_pos rfl, if_pos h3]
theorem jif (h : JM B S fq ft fr fb tn) {r m k : Nat} (hr : r < 6) (hm : m < 20) (hk : k < 4) : pIf S r m k = if vWy fq fr tn r m = 0 then vBr fq fr fb r m k else -1 := by
  unfold pIf
  rw [jwy h hr hm]
  by_cases h1 : vWy fq fr tn r m = 0
  · rw [if_pos h1, if_pos h1]
    rcases (show k = 0 ∨ k = 1 ∨ k = 2 ∨ k = 3 by omega) with rfl | rfl | rfl | rfl
    · exact (jhe h hr m).1
    · exact (jun h hr m).1
    · exact (jca h hr hm).1
    · exact (jra h hr).1
  · rw [if_neg h1, if_neg h1]
theorem jbr (h : JM B S fq ft fr fb tn) {m : Nat} (hm : m < 20) {k : Nat} (hk : k ≤ 6) : pBr S m k = vBe fq fr fb tn m k := by
  induction k with
  | zero => rfl
  | succ k ih =>
    have h1 := (jca h (r := k) (by omega) hm).1
    have h2 := jwy h (r := k) (by omega) hm
    have h3 := (jun (fb := fb) h (r := k) (by omega) m).1
    simp only [pBr, vBe, vCan]
    rw [ih (by omega), h1, h2, h3]
    by_cases h4 : vWy fq fr tn k m = 0 <;> by_cases h5 : vBr fq fr fb k m 2 = 0 <;> by_cases h6 : pBC (vBr fq fr fb k m 1) ≤ (vBe fq fr fb tn m k).2 <;> simp [h4, h5, h6]
theorem jx1 (h : JM B S fq ft fr fb tn) {r : Nat} (hr : r < 6) (m : Nat) : x6 (vBr fq fr fb r m 1) := by
  obtain ⟨h1, h2⟩ := jun (fb := fb) h hr m
  rwa [h1] at h2
theorem jx2 (h : JM B S fq ft fr fb tn) {r m : Nat} (hr : r < 6) (hm : m < 20) : x6 (vBr fq fr fb r m 2) := by
  obtain ⟨h1, h2⟩ := jca h hr hm
  rwa [h1] at h2
end JM
