theorem ite_or (c : Prop) [Decidable c] (x y : Int32) : (if c then x ||| y else x) = x ||| (if c then y else nI 0) := by
  by_cases h : c
  · rw [if_pos h, if_pos h]
  · rw [if_neg h, if_neg h, i32_o0]
section CNT
variable {B : Nat} {S Z : Nat → Nat → Int32}
theorem mt_eq (hR : RS S (Z 2)) {k : Nat} (hk : k ≤ 20) : pMT S k = mWn Z k := by
  induction k with
  | zero => rfl
  | succ k ih =>
    simp only [pMT, mWn]
    rw [ih (by omega), (hR.2.2.1 k (by omega)).1]
    by_cases h : Z 2 (47 + 11 * k) ≤ 0
    · rw [if_pos h, if_pos h, Nat.add_zero]
    · rw [if_neg h, if_neg h]
theorem lt_eq (hR : RS S (Z 2)) {k : Nat} (hk : k ≤ 20) : pLT S k = mMo Z k := by
  induction k with
  | zero => rfl
  | succ k ih =>
    simp only [pLT, mMo]
    rw [ih (by omega), (hR.2.2.1 k (by omega)).1]
    by_cases h : mMo Z k < Z 2 (47 + 11 * k)
    · rw [if_pos h, if_neg (fun q => Int32.not_lt.mpr q h)]
    · rw [if_neg h, if_pos (Int32.not_lt.mp h)]
theorem su2_eq (hR : RS S (Z 2)) {k : Nat} (hk : k ≤ 6) : mSu Z 2 k = mOn (S 0 3) k := by
  induction k with
  | zero => rfl
  | succ k ih =>
    simp only [mSu, mOn]
    rw [ih (by omega), hb_bit]
    exact congrArg (fun v => mOn (S 0 3) k + v) (hR.2.2.2.2.2.2.2.1 k (by omega))
theorem su3_eq (hR : RS S (Z 2)) {k : Nat} (hk : k ≤ 6) : mSu Z 3 k = nI (pSR S k) := by
  induction k with
  | zero => rfl
  | succ k ih =>
    have h := si_eq hR (r := k) (by omega)
    simp only [mSu, pSR]
    rw [ih (by omega), h]
    show nI (pSR S k) + bI (mSi Z k) = _
    cases mSi Z k
    · exact i32_a0 _
    · exact nI_add _ _
theorem su_eq {w : Nat} {f : Nat → Int32} (h : ∀ k : Nat, k < 6 → f k = mTR Z k w) {k : Nat} (hk : k ≤ 6) : pSm f k = mSu Z w k := by
  induction k with
  | zero => rfl
  | succ k ih =>
    simp only [mSu, pSm]
    rw [ih (by omega), h k (by omega)]
theorem wk_eq (hR : RS S (Z 2)) {k : Nat} (hk : k ≤ 6) : pRK S (S 0 1) k = mWk Z k := by
  induction k with
  | zero => rfl
  | succ k ih =>
    simp only [pRK, mWk]
    rw [ih (by omega), ite_or, (hR.2.1 k (by omega)).1, hR.1.2.1]
theorem ct_14 (hR : RS S (Z 2)) (hI : SI B S) {n : Nat} (hn : Z 0 3 = nI n) : ∀ k : Nat, k < 14 → ¬ k = 3 → pCt S n k = mTC Z (tlF S) k
  | 0, _, _ => hR.1.1
  | 1, _, _ => hR.1.2.1
  | 2, _, _ => congrArg nI (mt_eq hR (Nat.le_refl 20))
  | 3, _, h => absurd rfl h
  | 4, _, _ => lt_eq hR (Nat.le_refl 20)
  | 5, _, _ => hR.1.2.2.1
  | 6, _, _ => (on_eq hI.2.2.2.1.1 hI.2.2.2.1.2).1.trans (su2_eq hR (Nat.le_refl 6)).symm
  | 7, _, _ => (su3_eq hR (Nat.le_refl 6)).symm
  | 8, _, _ => hR.2.2.2.2.2.2.2.2.symm
  | 9, _, _ => su_eq (fun k hk => (hR.2.1 k hk).2.1) (Nat.le_refl 6)
  | 10, _, _ => wk_eq hR (Nat.le_refl 6)
  | 11, _, _ => hR.1.2.2.2.1
  | 12, _, _ => hR.1.2.2.2.2
  | 13, _, _ => hn.symm
  | k + 14, h, _ => absurd h (by omega)
theorem ct_eq (hR : RS S (Z 2)) (hI : SI B S) {n : Nat} (hn : Z 0 3 = nI n) {k : Nat} (hk : k < 14) : (if k = 3 then nI (tG S (tlF S) 20).2.2 else pCt S n k) = mTC Z (tlF S) k := by
  by_cases e : k = 3
  · rw [if_pos e, e]
    exact congrArg nI (nd_eq hR hI)
  · rw [if_neg e]
    exact ct_14 hR hI hn k hk e
theorem fb_all : ∀ v : Fin 8, nI v.val = iShl (bI (pHB (nI v.val) (nI 0))) (nI 0) ||| iShl (bI (pHB (nI v.val) (nI 1))) (nI 1) ||| iShl (bI (pHB (nI v.val) (nI 2))) (nI 2) := by decide +kernel
theorem zo32 (x : Int32) : nI 0 ||| x = x := Int32.zero_or
theorem fb_eq (hR : RS S (Z 2)) (hI : SI B S) {m : Nat} (hm : m < 20) : S 8 m = mFb Z m 3 := by
  have h8 := (hI.2.2.2.2.2.2.1 m hm).2.1
  have hg : ∀ k : Nat, k < 3 → iShr (Z 2 (44 + k)) (nI m) &&& nI 1 = bI (pHB (S 8 m) (nI k)) := by
    intro k hk
    rw [hR.2.2.2.2.2.2.1 m k hm hk]
    exact hb_bit _ _
  have h := fb_all ⟨nOf (S 8 m), h8.2⟩
  simp only [← h8.1] at h
  show S 8 m = nI 0 ||| iShl (iShr (Z 2 (44 + 0)) (nI m) &&& nI 1) (nI 0) ||| iShl (iShr (Z 2 (44 + 1)) (nI m) &&& nI 1) (nI 1) ||| iShl (iShr (Z 2 (44 + 2)) (nI m) &&& nI 1) (nI 2)
  rw [hg 0 (by omega), hg 1 (by omega), hg 2 (by omega), zo32]
  exact h
theorem ms_eq (hR : RS S (Z 2)) (hI : SI B S) {m : Nat} (hm : m < 20) {k : Nat} (hk : k < 4) : pMsg S m k = mTM Z m k := by
  obtain ⟨c1, c2, c3⟩ := hR.2.2.1 m hm
  rcases (show k = 0 ∨ k = 1 ∨ k = 2 ∨ k = 3 by omega) with rfl | rfl | rfl | rfl
  · exact c1
  · exact fb_eq hR hI hm
  · exact c2
  · exact c3
theorem no_eq (hR : RS S (Z 2)) (hI : SI B S) {m : Nat} (hm : m < 20) {k : Nat} (hk : k < 8) : pNote S m k = mTN Z m k := by
  have hl := ln_eq hR hI hm
  unfold pNote mTN
  rw [hl.2.2, hl.1]
  by_cases h : nI (tlF S m) ≤ nI k
  · rw [if_pos h, if_pos h]
  · rw [if_neg h, if_neg h]
    rw [nI_leI (by omega) (by omega)] at h
    exact hR.2.2.2.1 m k hm (show k < tlF S m by omega)
theorem rm_eq (hR : RS S (Z 2)) {r : Nat} (hr : r < 6) {k : Nat} (hk : k < 6) : pRm S r k = mTR Z r k := by
  obtain ⟨b1, b2, b3, b4⟩ := hR.2.1 r hr
  rcases (show k = 0 ∨ k = 1 ∨ k = 2 ∨ k = 3 ∨ k = 4 ∨ k = 5 by omega) with rfl | rfl | rfl | rfl | rfl | rfl
  · exact b1
  · exact b2
  · exact (hR.2.2.2.2.2.2.2.1 r hr).symm
  · exact congrArg bI (si_eq hR hr)
  · exact b3
  · exact b4
theorem sm_n {f : Nat → Int32} (n : Nat) (h : ∀ k : Nat, k < n → f k = nI (nOf (f k)) ∧ nOf (f k) ≤ B) (hb : n * B < 2 ^ 31) : pSm f n = nI (nOf (pSm f n)) ∧ nOf (pSm f n) ≤ n * B := by
  induction n with
  | zero => exact ⟨by show nI 0 = nI (nOf (nI 0)); decide, by show nOf (nI 0) ≤ 0 * B; rw [nOf_n (by decide)]; exact Nat.zero_le _⟩
  | succ n ih =>
    have e0 : (n + 1) * B = n * B + B := Nat.succ_mul n B
    obtain ⟨i1, i2⟩ := ih (fun k hk => h k (by omega)) (by omega)
    obtain ⟨j1, j2⟩ := h n (by omega)
    have e : pSm f (n + 1) = nI (nOf (pSm f n) + nOf (f n)) := by
      show pSm f n + f n = _
      rw [← nI_add, ← i1, ← j1]
    rw [e, nOf_n (by omega)]
    exact ⟨rfl, by omega⟩
theorem share_eq (hR : RS S (Z 2)) (hI : SI B S) (hB : 12 * B < 2 ^ 31) : cSh S = mSh9 Z ∧ bsOk (cSh S) := by
  have h4 := su_eq (Z := Z) (w := 4) (f := S 13) (fun k hk => (hR.2.1 k hk).2.2.1) (Nat.le_refl 6)
  have h5 := su_eq (Z := Z) (w := 5) (f := S 14) (fun k hk => (hR.2.1 k hk).2.2.2) (Nat.le_refl 6)
  have n4 := sm_n (B := B) (f := S 13) 6 (fun k hk => (hI.2.2.2.2.2.2.2.1 k hk).2.1) (by omega)
  have n5 := sm_n (B := B) (f := S 14) 6 (fun k hk => (hI.2.2.2.2.2.2.2.1 k hk).2.2) (by omega)
  unfold cSh mSh9
  rw [← h4, ← h5]
  generalize pSm (S 13) 6 = x at n4 ⊢
  generalize pSm (S 14) 6 = y at n5 ⊢
  have e : x + y = nI (nOf x + nOf y) := by rw [← nI_add, ← n4.1, ← n5.1]
  have n4b := n4.2
  have n5b := n5.2
  unfold cShare mShare
  rw [e]
  rcases Nat.eq_zero_or_pos (nOf x + nOf y) with q | q
  · rw [q]
    exact ⟨rfl, bs_1⟩
  · have h0 : (0 : Int32) < nI (nOf x + nOf y) := by
      have h9 : nI 0 < nI (nOf x + nOf y) := nI_lt q (by omega)
      exact h9
    have h1 : ¬ nI (nOf x + nOf y) = 0 := nI_ne0 q (by omega)
    rw [if_pos h0, if_neg h1, n4.1, nOf_n (by omega)]
    exact ⟨rfl, bs_share q (by omega) (by omega)⟩
end CNT

