/-! pure rows of the reference of whole, as far as p33 uses them (wip/p33/mkpure.py) -/
def pWi (v a b : Int32) : Bool := decide (¬ v < a ∧ ¬ b < v)
def mOn (x : Int32) : Nat → Int32 | 0 => nI 0 | k + 1 => mOn x k + (iShr x (nI k) &&& nI 1)
def mShT (Z : Nat → Nat → Int32) (k : Nat) : Int32 := iRem (Z 13 k - Z 13 0 + nI 7) (nI 7)
def mSh (Z : Nat → Nat → Int32) (m k : Nat) : Int32 := iRem (Z 2 (47 + 11 * m + (3 + k)) - Z 2 (47 + 11 * m + 3) + nI 7) (nI 7)
def mHSl (Z : Nat → Nat → Int32) (m n : Nat) : Nat → Bool | 0 => decide (Z 2 (47 + 11 * m) = nI n) | k + 1 => mHSl Z m n k && decide (mSh Z m k = mShT Z k)
def mHS (Z : Nat → Nat → Int32) (m n : Nat) : Bool := mHSl Z m n n
def mTu (Z : Nat → Nat → Int32) : Bool := pWi (Z 0 13) (nI 2) (nI 8)
def mWc (Z : Nat → Nat → Int32) (m n : Nat) : Nat → Bool | 0 => false | k + 1 => mWc Z m n k || (!decide (k = m) && mHS Z k n)
def mWT (Z : Nat → Nat → Int32) (m n : Nat) : Int32 := if mTu Z then (if mWc Z m n 20 then nI 4 else nI 0) else nI 3
def mDeP (Z : Nat → Nat → Int32) (n : Nat) (key : Int32) (m : Nat) : Bool := mTu Z && (mHS Z m n && decide (Z 2 (47 + 11 * m + 3) = iRem (Z 13 0 - key + nI 7) (nI 7)))
def mDe (Z : Nat → Nat → Int32) (n : Nat) (key : Int32) : Int32 := mFind (mDeP Z n key) 20 0
def mBA (Z : Nat → Nat → Int32) (m o n : Nat) : Nat → Bool | 0 => !decide (Z 2 (47 + 11 * o) < nI n) | k + 1 => mBA Z m o n k && decide (mSh Z m k = mSh Z o k)
def mApart (f o : Nat) : Nat := if f < o then o - f else f - o
def mNear (Z : Nat → Nat → Int32) (f o : Nat) : Bool := decide (¬ Z 2 3 < nI (mApart f o))
def mF1 (Z : Nat → Nat → Int32) (f : Nat) : Nat → Int32 | 0 => nI 0 | k + 1 => mF1 Z f k ||| (if mNear Z k f then iShl (nI 1) (nI k) else nI 0)
def mPs (Z : Nat → Nat → Int32) (x : Int32) (k : Nat) : Bool := !decide ((x &&& Z 2 2) &&& iShl (nI 1) (nI (k / 3 % 3)) = 0)
def mF2 (Z : Nat → Nat → Int32) (f : Nat) : Nat → Int32 | 0 => mF1 Z f 3 | k + 1 => mF2 Z f k ||| (if mPs Z (mF2 Z f k) k && mNear Z (k / 3 % 3) (k % 3) then iShl (nI 1) (nI (k % 3)) else nI 0)
def mHe (Z : Nat → Nat → Int32) (r : Nat) : Nat → Int32 | 0 => nI 0 | k + 1 => mHe Z r k ||| (if !decide (k = r) && decide (iShr (mF2 Z (r / 2) 27) (nI (k / 2)) &&& nI 1 = nI 1) then iShl (nI 1) (nI k) else nI 0)
def mKn (Z : Nat → Nat → Int32) (r : Nat) : Nat → Int32 | 0 => mHe Z r 6 | k + 1 => mKn Z r k &&& (if Z 2 (14 + 5 * k) = Z 2 (14 + 5 * r) then mKn Z r k else iShl (nI 1) (nI k) ^^^ -1)
def mCaB (Z : Nat → Nat → Int32) (r m k : Nat) : Bool := decide (iShr (mF2 Z (r / 2) 27) (iRem (nI k + Z 2 0) (nI 3)) &&& nI 1 = nI 1) && decide (iShr (Z 2 (44 + k)) (nI m) &&& nI 1 = nI 1)
def mCa (Z : Nat → Nat → Int32) (r m : Nat) : Nat → Int32 | 0 => nI 0 | k + 1 => mCa Z r m k ||| (if mCaB Z r m k then iShl (nI 1) (nI k) else nI 0)
def mRa (Z : Nat → Nat → Int32) (r m : Nat) : Int32 := if 12 ≤ m ∧ Z 2 (14 + 5 * r) = Z 2 1 then mKn Z r 6 else nI 0
def mSi (Z : Nat → Nat → Int32) (r : Nat) : Bool := !decide (Z 2 (14 + 5 * r + 1) < Z 2 4)
def mWy (Z : Nat → Nat → Int32) (r m : Nat) : Int32 := if mSi Z r then nI 1 else if Z 2 (47 + 11 * m) = 0 then nI 2 else nI 0
def mCp (f g : Nat → Int32) (d1 d2 : Nat) : Nat → (Nat → Int32) | 0 => g | k + 1 => upd (mCp f g d1 d2 k) (d1 + k) (f (d2 + k))
def mSh0 (f : Nat → Int32) : Nat → (Nat → Int32) | 0 => f | k + 1 => upd (mSh0 f k) k (mSh0 f k (k + 267))
/-- saved, n of them, behind save() -/
def mSvF (f st : Nat → Int32) (n : Nat) : Nat → Int32 := if n = 6 then mCp st (mSh0 f 1335) (5 * 267) 0 267 else mCp st f (n * 267) 0 267
def mSvN (n : Nat) : Nat := if n = 6 then 6 else n + 1
def mAdT (t : Nat → Int32) (n : Nat) (x : Int32) : Nat → Int32 := if n < 8 then upd t n x else t
def mAdN (n : Nat) : Nat := if 8 < n then n else n + 1
def mTcF (st : Nat → Int32) (t : Nat → Int32) (m n : Nat) : Nat → (Nat → Int32) | 0 => upd st (47 + 11 * m) (nI n) | k + 1 => upd (mTcF st t m n k) (47 + 11 * m + (3 + k)) (if k < n then t k else nI 0)
def mRiB (st : Nat → Int32) : Int32 := if iRem (st 0) (nI 7) = 0 then nI 0 else nI 1
def mRiF (st : Nat → Int32) : Nat → (Nat → Int32) | 0 => upd st 0 (st 0 + nI 1) | k + 1 => upd (upd (mRiF st k) (14 + 5 * k + 2) (nI 0)) (14 + 5 * k + 1) ((upd (mRiF st k) (14 + 5 * k + 2) (nI 0)) (14 + 5 * k + 1) * mRiB (upd (mRiF st k) (14 + 5 * k + 2) (nI 0)))

theorem pAt_pos {cd : Nat → Nat} {L a : Nat} (h : 0 < pAt cd L a) : a < L := by
  unfold pAt at h
  split at h
  · assumption
  · omega
theorem ix_0 : pIx 0 = -1 := by decide +kernel
theorem ix_pos {cd : Nat → Nat} {L a : Nat} (h : ¬ pIx (pAt cd L a) = -1) : a < L := by
  unfold pAt at h
  split at h
  · assumption
  · exact absurd ix_0 h
theorem in9_le {c a b : Nat} (h : pIn9 c a b = true) : a ≤ c ∧ c ≤ b := of_decide_eq_true h
/-- a group's notes once more, as far as there is room -/
def rpS (f : Nat) (t : Nat → Int32) (n : Nat) : Nat → (Nat → Int32) × Nat | 0 => (t, n) | k + 1 => if (rpS f t n k).2 ≤ 8 then (mAdT (rpS f t n k).1 (rpS f t n k).2 (if f + k < 8 then (rpS f t n k).1 (f + k) else nI 0), mAdN (rpS f t n k).2) else rpS f t n k
theorem mAdN_le {n : Nat} (h : n ≤ 9) : mAdN n ≤ 9 := by unfold mAdN; split <;> omega
theorem rpS_le {f : Nat} {t : Nat → Int32} {n : Nat} (h : n ≤ 9) (k : Nat) : (rpS f t n k).2 ≤ 9 := by
  induction k with
  | zero => exact h
  | succ k ih =>
    simp only [rpS]; split
    · exact mAdN_le ih
    · exact ih
theorem rpS_ge {f : Nat} {t : Nat → Int32} {n : Nat} (k : Nat) : n ≤ (rpS f t n k).2 := by
  induction k with
  | zero => exact Nat.le_refl _
  | succ k ih =>
    simp only [rpS]; split
    · show n ≤ mAdN (rpS f t n k).2
      unfold mAdN; split <;> omega
    · exact ih
theorem rpS_s {f : Nat} {t : Nat → Int32} {n k : Nat} (h : (rpS f t n k).2 ≤ 8) : rpS f t n (k + 1) = (mAdT (rpS f t n k).1 (rpS f t n k).2 (if f + k < 8 then (rpS f t n k).1 (f + k) else nI 0), mAdN (rpS f t n k).2) := if_pos h
/-- a tune that is read: ((place, notes many, notes), (groups open, where they begin), needs an item, 0 goes on, 1 ends, 2 wrong) -/
abbrev RT : Type := (Nat × Nat × (Nat → Int32)) × (Nat × (Nat → Int32)) × Bool × Nat
def rtS (cd : Nat → Nat) (L : Nat) (s : RT) : RT :=
  if s.2.2.2 = 0 then
    (if ¬ pIx (pAt cd L s.1.1) = -1 then ((s.1.1 + 1, mAdN s.1.2.1, mAdT s.1.2.2 s.1.2.1 (pIx (pAt cd L s.1.1))), s.2.1, false, 0)
     else if pAt cd L s.1.1 = 40 ∧ s.2.1.1 < 3 then ((s.1.1 + 1, s.1.2.1, s.1.2.2), (s.2.1.1 + 1, upd s.2.1.2 s.2.1.1 (nI s.1.2.1)), true, 0)
     else if pAt cd L s.1.1 = 41 ∧ 0 < s.2.1.1 ∧ s.2.2.1 = false then
       (if pIn9 (pAt cd L (s.1.1 + 1)) 50 51 then ((s.1.1 + 2, (rpS (nOf (s.2.1.2 (s.2.1.1 - 1))) s.1.2.2 s.1.2.1 ((s.1.2.1 - nOf (s.2.1.2 (s.2.1.1 - 1))) * (pAt cd L (s.1.1 + 1) - 48 - 1))).2, (rpS (nOf (s.2.1.2 (s.2.1.1 - 1))) s.1.2.2 s.1.2.1 ((s.1.2.1 - nOf (s.2.1.2 (s.2.1.1 - 1))) * (pAt cd L (s.1.1 + 1) - 48 - 1))).1), (s.2.1.1 - 1, s.2.1.2), false, 0)
        else ((s.1.1 + 1, s.1.2.1, s.1.2.2), s.2.1, s.2.2.1, 2))
     else (s.1, s.2.1, s.2.2.1, 1))
  else s
def rt (cd : Nat → Nat) (L : Nat) (s0 : RT) : Nat → RT | 0 => s0 | k + 1 => rtS cd L (rt cd L s0 k)
def rtI (L : Nat) (s : RT) : Prop := s.1.1 ≤ L ∧ s.1.2.1 ≤ 9 ∧ s.2.1.1 ≤ 3 ∧ ∀ j : Nat, j < s.2.1.1 → s.2.1.2 j = nI (nOf (s.2.1.2 j)) ∧ nOf (s.2.1.2 j) ≤ s.1.2.1
theorem rtI_s {cd : Nat → Nat} {L : Nat} {s : RT} (h : rtI L s) : rtI L (rtS cd L s) := by
  obtain ⟨h1, h2, h3, h4⟩ := h
  unfold rtS
  split
  · split
    · rename_i hm hc
      have := ix_pos hc
      refine ⟨by show s.1.1 + 1 ≤ L; omega, mAdN_le h2, h3, fun j hj => ⟨(h4 j hj).1, Nat.le_trans (h4 j hj).2 ?_⟩⟩
      show s.1.2.1 ≤ mAdN s.1.2.1
      unfold mAdN; split <;> omega
    · split
      · rename_i hc
        have := pAt_pos (cd := cd) (L := L) (a := s.1.1) (by omega)
        refine ⟨by show s.1.1 + 1 ≤ L; omega, h2, by show s.2.1.1 + 1 ≤ 3; omega, fun j hj => ?_⟩
        show upd s.2.1.2 s.2.1.1 (nI s.1.2.1) j = nI (nOf (upd s.2.1.2 s.2.1.1 (nI s.1.2.1) j)) ∧ nOf (upd s.2.1.2 s.2.1.1 (nI s.1.2.1) j) ≤ s.1.2.1
        have hj2 : j < s.2.1.1 + 1 := hj
        by_cases e : j = s.2.1.1
        · have h9 : upd s.2.1.2 s.2.1.1 (nI s.1.2.1) j = nI s.1.2.1 := if_pos e
          rw [h9, nOf_n (by omega)]
          exact ⟨rfl, Nat.le_refl _⟩
        · have h9 : upd s.2.1.2 s.2.1.1 (nI s.1.2.1) j = s.2.1.2 j := if_neg e
          rw [h9]
          exact h4 j (by omega)
      · split
        · rename_i hc
          have h5 := pAt_pos (cd := cd) (L := L) (a := s.1.1) (by omega)
          split
          · rename_i hd
            have h6 := in9_le hd
            have h7 := pAt_pos (cd := cd) (L := L) (a := s.1.1 + 1) (by omega)
            refine ⟨by show s.1.1 + 2 ≤ L; omega, rpS_le h2 _, by show s.2.1.1 - 1 ≤ 3; omega, fun j hj => ?_⟩
            have hj2 : j < s.2.1.1 - 1 := hj
            exact ⟨(h4 j (by omega)).1, Nat.le_trans (h4 j (by omega)).2 (rpS_ge _)⟩
          · exact ⟨by show s.1.1 + 1 ≤ L; omega, h2, h3, h4⟩
        · exact ⟨h1, h2, h3, h4⟩
  · exact ⟨h1, h2, h3, h4⟩
theorem rt_I {cd : Nat → Nat} {L : Nat} {s0 : RT} (h : rtI L s0) (k : Nat) : rtI L (rt cd L s0 k) := by
  induction k with
  | zero => exact h
  | succ k ih => exact rtI_s ih
/-- while it goes on it goes forward -/
theorem rt_k {cd : Nat → Nat} {L : Nat} {s0 : RT} (k : Nat) (h : (rt cd L s0 k).2.2.2 = 0) : s0.1.1 + k ≤ (rt cd L s0 k).1.1 := by
  induction k with
  | zero => exact Nat.le_refl _
  | succ k ih =>
    have h0 : (rt cd L s0 k).2.2.2 = 0 := by
      rcases Nat.eq_zero_or_pos (rt cd L s0 k).2.2.2 with q | q
      · exact q
      · exfalso
        have h1 : rt cd L s0 (k + 1) = rt cd L s0 k := if_neg (by omega)
        rw [h1] at h
        omega
    have h1 := ih h0
    have h2 : rt cd L s0 (k + 1) = rtS cd L (rt cd L s0 k) := rfl
    rw [h2] at h ⊢
    unfold rtS at h ⊢
    rw [if_pos h0] at h ⊢
    split
    · show _ ≤ _ + 1
      omega
    · rename_i c1
      rw [if_neg c1] at h
      split
      · show _ ≤ _ + 1
        omega
      · rename_i c2
        rw [if_neg c2] at h
        split
        · rename_i c3
          rw [if_pos c3] at h
          split
          · show _ ≤ _ + 2
            omega
          · rename_i c4
            rw [if_neg c4] at h
            cases h
        · rename_i c3
          rw [if_neg c3] at h
          cases h
/-- a tune read to its end -/
def rtE (cd : Nat → Nat) (L a : Nat) (t o : Nat → Int32) : RT := rt cd L ((a, 0, t), (0, o), true, 0) (L + 1)
def rtB (s : RT) : Bool := decide (s.2.2.2 = 1 ∧ s.2.2.1 = false ∧ s.2.1.1 = 0)
theorem rtE_I {cd : Nat → Nat} {L a : Nat} {t o : Nat → Int32} (h : a ≤ L) : rtI L (rtE cd L a t o) := rt_I ⟨h, Nat.zero_le _, Nat.zero_le _, fun j hj => absurd hj (Nat.not_lt_zero j)⟩ _
section RN
variable {cd : Nat → Nat} {L a mo : Nat}
theorem nI_ne1 {n : Nat} (h : n < 2 ^ 31) : ¬ nI n = -1 := by
  intro q
  have h1 := congrArg Int32.toInt q
  rw [nI_toInt h] at h1
  have h2 : (-1 : Int32).toInt = -1 := by decide
  rw [h2] at h1
  omega
end RN
theorem mNear_e {Z Y : Nat → Nat → Int32} (h3 : Z 2 3 = Y 2 3) (f o : Nat) : mNear Z f o = mNear Y f o := by unfold mNear; rw [h3]
theorem mF1_e {Z Y : Nat → Nat → Int32} (h3 : Z 2 3 = Y 2 3) (f k : Nat) : mF1 Z f k = mF1 Y f k := by
  induction k with
  | zero => rfl
  | succ k ih => simp only [mF1]; rw [ih, mNear_e h3]
theorem mF2_e {Z Y : Nat → Nat → Int32} (h2 : Z 2 2 = Y 2 2) (h3 : Z 2 3 = Y 2 3) (f k : Nat) : mF2 Z f k = mF2 Y f k := by
  induction k with
  | zero => exact mF1_e h3 f 3
  | succ k ih =>
    have h5 : mPs Z (mF2 Y f k) k = mPs Y (mF2 Y f k) k := by unfold mPs; rw [h2]
    simp only [mF2]
    rw [ih, h5, mNear_e h3]
def mWh0 (Z : Nat → Nat → Int32) (r m : Nat) : Nat → Int32 := upd (upd (upd (upd (upd (upd (Z 2) 6 (nI r)) 7 (nI m)) 8 (mF2 Z (r / 2) 27)) 9 (mKn Z r 6)) 10 (mCa Z r m 3)) 11 (mRa Z r m)
def mBit (x : Int32) (k : Nat) : Bool := decide (iShr x (nI k) &&& nI 1 = nI 1)
def mW1a (kn : Int32) (w : Nat → Int32) (k : Nat) : Nat → Int32 := upd w (14 + 5 * k + 3) ((w (14 + 5 * k + 3)) + bI (mBit kn k))
def mW1b (h kn : Int32) (w : Nat → Int32) (k : Nat) : Nat → Int32 := upd (mW1a kn w k) (14 + 5 * k + 4) ((mW1a kn w k (14 + 5 * k + 4)) + bI (mBit h k && !mBit kn k))
def mW1 (h kn ra : Int32) (w : Nat → Int32) (k : Nat) : Nat → Int32 := upd (mW1b h kn w k) (14 + 5 * k + 2) (mW1b h kn w k (14 + 5 * k + 2) ||| (iShr ra (nI k) &&& nI 1))
def mWhL (Z : Nat → Nat → Int32) (r m : Nat) : Nat → (Nat → Int32) | 0 => mWh0 Z r m | k + 1 => mW1 (mHe Z r 6) (mKn Z r 6) (mRa Z r m) (mWhL Z r m k) k
def mWh2 (Z : Nat → Nat → Int32) (r m : Nat) : Nat → Int32 := upd (mWhL Z r m 6) (14 + 5 * r + 1) ((mWhL Z r m 6 (14 + 5 * r + 1)) + mOn (mCa Z r m 3) 6)
def mWh3 (Z : Nat → Nat → Int32) (r m : Nat) : Nat → Int32 := upd (mWh2 Z r m) (47 + 11 * m + 1) (mWh2 Z r m (47 + 11 * m + 1) + nI 1)
def mWh4 (Z : Nat → Nat → Int32) (r m : Nat) : Nat → Int32 := upd (mWh3 Z r m) (47 + 11 * m + 2) (mWh3 Z r m (47 + 11 * m + 2) + mOn (mKn Z r 6) 6)
def mWhF (Z : Nat → Nat → Int32) (r m : Nat) : Nat → Int32 := upd (mWh4 Z r m) 5 (mWh4 Z r m 5 + nI 1)
/-- the nodes of the tree -/
def mNw (Z : Nat → Nat → Int32) (m n : Nat) : Nat → Bool | 0 => true | k + 1 => mNw Z m n k && !mBA Z m k n n
def mNd1 (Z : Nat → Nat → Int32) (m : Nat) (s : Nat) : Nat → Nat | 0 => s | n + 1 => mNd1 Z m s n + (if mNw Z m (n + 1) m then 1 else 0)
def mNd (Z : Nat → Nat → Int32) (ln : Nat → Nat) : Nat → Nat | 0 => 0 | k + 1 => mNd1 Z k (mNd Z ln k) (ln k)
def mFb (Z : Nat → Nat → Int32) (m : Nat) : Nat → Int32 | 0 => nI 0 | k + 1 => mFb Z m k ||| iShl (iShr (Z 2 (44 + k)) (nI m) &&& nI 1) (nI k)
def mTM (Z : Nat → Nat → Int32) (m : Nat) : Nat → Int32 | 0 => Z 2 (47 + 11 * m) | 1 => mFb Z m 3 | 2 => Z 2 (47 + 11 * m + 1) | _ => Z 2 (47 + 11 * m + 2)
def mTN (Z : Nat → Nat → Int32) (m pl : Nat) : Int32 := if Z 2 (47 + 11 * m) ≤ nI pl then -1 else Z 2 (47 + 11 * m + (3 + pl))
def mTR (Z : Nat → Nat → Int32) (r : Nat) : Nat → Int32 | 0 => Z 2 (14 + 5 * r) | 1 => Z 2 (14 + 5 * r + 1) | 2 => Z 2 (14 + 5 * r + 2) | 3 => bI (mSi Z r) | 4 => Z 2 (14 + 5 * r + 3) | _ => Z 2 (14 + 5 * r + 4)
def mWn (Z : Nat → Nat → Int32) : Nat → Nat | 0 => 0 | k + 1 => mWn Z k + (if Z 2 (47 + 11 * k) ≤ 0 then 0 else 1)
def mMo (Z : Nat → Nat → Int32) : Nat → Int32 | 0 => nI 0 | k + 1 => if Z 2 (47 + 11 * k) ≤ mMo Z k then mMo Z k else Z 2 (47 + 11 * k)
def mSu (Z : Nat → Nat → Int32) (w : Nat) : Nat → Int32 | 0 => nI 0 | k + 1 => mSu Z w k + mTR Z k w
def mWk (Z : Nat → Nat → Int32) : Nat → Int32 | 0 => nI 0 | k + 1 => mWk Z k ||| (if Z 2 (14 + 5 * k) = Z 2 1 then iShl (nI 1) (nI k) else nI 0)
def mTC (Z : Nat → Nat → Int32) (ln : Nat → Nat) : Nat → Int32 | 0 => Z 2 0 | 1 => Z 2 1 | 2 => nI (mWn Z 20) | 3 => nI (mNd Z ln 20) | 4 => mMo Z 20 | 5 => Z 2 2 | 6 => mSu Z 2 6 | 7 => mSu Z 3 6 | 8 => Z 2 5 | 9 => mSu Z 1 6 | 10 => mWk Z 6 | 11 => Z 2 3 | 12 => Z 2 4 | _ => Z 0 3
def mFkP (Z : Nat → Nat → Int32) (n k : Nat) : Bool := !decide (mDe Z n (nI k) = -1)
def mFk (Z : Nat → Nat → Int32) (n : Nat) : Int32 := mFind (mFkP Z n) 7 0
def mWB (Z : Nat → Nat → Int32) (r m w : Nat) : Int32 := if mWy Z r m = 0 then (if w = 0 then mHe Z r 6 else if w = 1 then mKn Z r 6 else if w = 2 then mCa Z r m 3 else mRa Z r m) else -1
def mFc (Z : Nat → Nat → Int32) (m k : Nat) : Bool := decide (mWy Z k m = 0) && decide (mCa Z k m 3 = 0)
def mFm (Z : Nat → Nat → Int32) (m k : Nat) (p : Int32 × Int32) : Bool := mFc Z m k && (decide (p.1 = -1) || !decide (mOn (mKn Z k 6) 6 ≤ p.2))
def mFr (Z : Nat → Nat → Int32) (m : Nat) : Nat → Int32 × Int32 | 0 => (-1, nI 0) | k + 1 => if mFm Z m k (mFr Z m k) = true then (nI k, mOn (mKn Z k 6) 6) else mFr Z m k

def mShare (k a : Int32) : UInt64 := if a = 0 then FP.dconst1 else FP.ddiv (FP.i2d k) (FP.i2d a)
def mSh9 (Z : Nat → Nat → Int32) : UInt64 := mShare (mSu Z 4 6) (mSu Z 4 6 + mSu Z 5 6)
def pTel (S : Nat → Nat → Int32) (x : Int32) : Nat → Nat → Int32 := if pBt x 6 = true then sa S 11 (upd (S 11) (nOf x) (S 0 1)) else S
abbrev pPc (S : Nat → Nat → Int32) (x y : Int32) : Prop := pBt x 6 = true ∧ pBt y 20 = true ∧ pWhy S (nOf x) (nOf y) = 0
def pPW (S : Nat → Nat → Int32) (x y : Int32) : Int32 := if pBt x 6 = true ∧ pBt y 20 = true then pWhy S (nOf x) (nOf y) else nI 2
def pPS (S O : Nat → Nat → Int32) (x y : Int32) : Nat → Nat → Int32 := if pPc S x y then pRem S (pFor O S (nOf x) (nOf y)) (nOf x) (nOf y) else S
def pPO (S O : Nat → Nat → Int32) (x y : Int32) : Nat → Nat → Int32 := if pPc S x y then pFor O S (nOf x) (nOf y) else O
/-- where a teaching part's sign '=' stands -/
def pEq (cd : Nat → Nat) (n a : Nat) : Nat := if pAt cd n (a + 1) = 61 then a + 1 else a + 2
/-- how long a part's tune is -/
def ntP (cd : Nat → Nat) (n : Nat) (U : Nat → Nat → Int32) (a b : Nat) : Nat := (tV cd n a (U 1) (U 2) (b - a)).2.1
/-- a teaching part's message -/
abbrev pTx (cd : Nat → Nat) (n a : Nat) : Int32 := pNu cd n a (pEq cd n a - a)
abbrev pTU (U : Nat → Nat → Int32) (cd : Nat → Nat) (n a b : Nat) : Nat → Nat → Int32 := tTu U cd n (pEq cd n a + 1) b
abbrev pTN (U : Nat → Nat → Int32) (cd : Nat → Nat) (n a b : Nat) : Nat := ntP cd n U (pEq cd n a + 1) b
abbrev pTW (S : Nat → Nat → Int32) (tl : Nat → Nat) (U : Nat → Nat → Int32) (cd : Nat → Nat) (n a b : Nat) : Int32 := pRA S tl (pTU U cd n a b) (pTN U cd n a b) (nOf (pTx cd n a))
/-- the school that has learnt -/
def pLn (S U : Nat → Nat → Int32) (m nt : Nat) : Nat → Nat → Int32 := sa (sa S 6 (upd (S 6) m (nI nt))) 7 (va_cpy (U 1) (S 7) 0 (m * 8) nt)
/-- a teaching part: the answer, school, tune, tree -/
def pTea (S : Nat → Nat → Int32) (tl : Nat → Nat) (U K : Nat → Nat → Int32) (cd : Nat → Nat) (n a b : Nat) : Int32 × (Nat → Nat → Int32) × (Nat → Nat → Int32) × (Nat → Nat → Int32) :=
  if pBt (pTx cd n a) 20 = true then (if pTW S tl U cd n a b = 0 then (pTW S tl U cd n a b, pLn S (pTU U cd n a b) (nOf (pTx cd n a)) (pTN U cd n a b), pTU U cd n a b, gTO K S tl (pTN U cd n a b)) else (pTW S tl U cd n a b, S, pTU U cd n a b, gTO K S tl (pTN U cd n a b))) else (nI 2, S, U, K)
def pBg (S : Nat → Nat → Int32) : Nat → Nat → Int32 := sa (sc (sc S 0 (S 0 0 + nI 1)) 3 (nI 0)) 12 (pBM (S 0 0 + nI 1) (S 12))
abbrev pN1 (cd : Nat → Nat) (n a b : Nat) : Int32 := pNu cd n (a + 1) (b - (a + 1))
abbrev pNx (cd : Nat → Nat) (n a : Nat) : Int32 := pNu cd n (a + 1) (a + 2 - (a + 1))
abbrev pNy (cd : Nat → Nat) (n a b : Nat) : Int32 := pNu cd n (a + 3) (b - (a + 3))
/-- a part: the answer, school, outcome, tune, tree -/
def pPP (S : Nat → Nat → Int32) (tl : Nat → Nat) (O U K : Nat → Nat → Int32) (cd : Nat → Nat) (n a b : Nat) : Int32 × (Nat → Nat → Int32) × (Nat → Nat → Int32) × (Nat → Nat → Int32) × (Nat → Nat → Int32) :=
  if pAt cd n a = 119 then (pPW S (pNx cd n a) (pNy cd n a b), pPS S O (pNx cd n a) (pNy cd n a b), pPO S O (pNx cd n a) (pNy cd n a b), U, K)
  else if pAt cd n a = 33 then (nI 0, pBg S, O, U, K)
  else if pAt cd n a = 107 then (nI 0, sc S 1 (pN1 cd n a b), O, U, K)
  else if pAt cd n a = 116 then (nI 0, pTel S (pN1 cd n a b), O, U, K)
  else ((pTea S tl U K cd n a b).1, (pTea S tl U K cd n a b).2.1, O, (pTea S tl U K cd n a b).2.2.1, (pTea S tl U K cd n a b).2.2.2)
abbrev PL : Type := ((Nat → Nat → Int32) × (Nat → Nat → Int32) × (Nat → Nat → Int32) × (Nat → Nat → Int32)) × Int32 × Int32 × Nat
abbrev tlF (S : Nat → Nat → Int32) : Nat → Nat := fun i => nOf (S 6 i)
/-- the part that ends at k -/
abbrev plP (cd : Nat → Nat) (n k : Nat) (s : PL) : Int32 × (Nat → Nat → Int32) × (Nat → Nat → Int32) × (Nat → Nat → Int32) × (Nat → Nat → Int32) := pPP s.1.1 (tlF s.1.1) s.1.2.1 s.1.2.2.1 s.1.2.2.2 cd n s.2.2.2 k
def plS (cd : Nat → Nat) (n k : Nat) (s : PL) : PL := if s.2.1 = 0 then (if k = n ∨ pAt cd n k = 44 then (((plP cd n k s).2.1, (plP cd n k s).2.2.1, (plP cd n k s).2.2.2.1, (plP cd n k s).2.2.2.2), (plP cd n k s).1, (if (plP cd n k s).1 = 0 then s.2.2.1 + nI 1 else s.2.2.1 + nI 0), k + 1) else s) else s
/-- an evening as far as place k: ((school, outcome, tune, tree), what stopped it, parts, where the next begins) -/
def pl (cd : Nat → Nat) (n : Nat) (s0 : PL) : Nat → PL | 0 => s0 | k + 1 => plS cd n k (pl cd n s0 k)
theorem log2_of {n k : Nat} (h1 : 2 ^ k ≤ n) (h2 : n < 2 ^ (k + 1)) : n.log2 = k := by
  have h0 : n ≠ 0 := by
    have := Nat.two_pow_pos k
    omega
  have h3 := (Nat.le_log2 h0).mpr h1
  have h4 := (Nat.log2_lt h0).mpr h2
  omega
theorem near_b (N D : Nat) : N / D ≤ FP.Core.nearest N D ∧ FP.Core.nearest N D ≤ N / D + 1 := by
  unfold FP.Core.nearest
  split
  · omega
  · split
    · omega
    · omega
theorem rr_b {A B : Nat} {e q : Int} (hA : 0 < A) (hq : FP.Core.quantum FP.Core.b64 A B e = q) (h1 : -1074 ≤ q) (h2 : q < 971) {C : Nat} (hC : FP.Core.nearest (FP.Core.unitsNum A e q) (FP.Core.unitsDen B e q) = C) (hl : 4503599627370496 ≤ C) (hu : C ≤ 9007199254740992) : ∃ (c : Nat) (r : Int), FP.Core.roundRatio FP.Core.b64 false A B e = .fin false c r ∧ 4503599627370496 ≤ c ∧ c < 9007199254740992 ∧ (r = q ∨ (r = q + 1 ∧ C = 9007199254740992)) := by
  have hr : FP.Core.roundRatio FP.Core.b64 false A B e = FP.Core.settle FP.Core.b64 false C q := by
    unfold FP.Core.roundRatio
    rw [if_neg (by omega), hq]
    unfold FP.Core.roundAt
    rw [hC]
  rw [hr]
  unfold FP.Core.settle
  by_cases h : C < 9007199254740992
  · rw [if_pos (show C < 2 ^ FP.Core.b64.p from h)]
    refine ⟨C, q, ?_, hl, h, Or.inl rfl⟩
    unfold FP.Core.bound
    rw [if_pos (show q ≤ FP.Core.b64.qmax from (by show q ≤ 971; omega))]
  · rw [if_neg (show ¬ C < 2 ^ FP.Core.b64.p from h)]
    refine ⟨4503599627370496, q + 1, ?_, by decide, by decide, Or.inr ⟨rfl, by omega⟩⟩
    unfold FP.Core.bound
    rw [if_pos (show q + 1 ≤ FP.Core.b64.qmax from (by show q + 1 ≤ 971; omega))]
    rfl
theorem log2_mono {a b : Nat} (ha : 0 < a) (h : a ≤ b) : a.log2 ≤ b.log2 := by
  have h1 : 2 ^ a.log2 ≤ a := Nat.log2_self_le (by omega)
  exact (Nat.le_log2 (by omega)).mpr (by omega)
/-- the share of a out of b is a normal double of at most one -/
theorem share_U {a b : Nat} (ha : 0 < a) (hab : a ≤ b) (hb : b < 2 ^ 31) : ∃ (c : Nat) (r : Int), FP.ddiv (FP.i2d (nI a)) (FP.i2d (nI b)) = dU false c r ∧ 4503599627370496 ≤ c ∧ c < 9007199254740992 ∧ -115 ≤ r ∧ r ≤ -52 := by
  have ta : (nI a).toInt = (a : Int) := nI_toInt (by omega)
  have tb : (nI b).toInt = (b : Int) := nI_toInt hb
  have na : ¬ nI a = 0 := nI_ne0 ha (by omega)
  have nb : ¬ nI b = 0 := nI_ne0 (by omega) hb
  obtain ⟨a1, a2, a3, -⟩ := i2d_b na
  obtain ⟨b1, b2, b3, -⟩ := i2d_b nb
  have hda := dU_dec (s := decide ((nI a).toInt < 0)) a1 a2 (show -1074 ≤ iQ (nI a) by unfold iQ; omega) (by unfold iQ; omega)
  have hdb := dU_dec (s := decide ((nI b).toInt < 0)) b1 b2 (show -1074 ≤ iQ (nI b) by unfold iQ; omega) (by unfold iQ; omega)
  rw [← i2d_U na] at hda
  rw [← i2d_U nb] at hdb
  have sa : decide ((nI a).toInt < 0) = false := decide_eq_false (by omega)
  have sb : decide ((nI b).toInt < 0) = false := decide_eq_false (by omega)
  rw [sa] at hda
  rw [sb] at hdb
  have lab : (nI a).toInt.natAbs.log2 ≤ (nI b).toInt.natAbs.log2 := log2_mono (by omega) (by omega)
  have hcab : (nI a).toInt.natAbs.log2 = (nI b).toInt.natAbs.log2 → iC (nI a) ≤ iC (nI b) := by
    intro h
    unfold iC
    rw [h]
    exact Nat.mul_le_mul_right _ (by omega)
  have he : iQ (nI a) - iQ (nI b) = ((nI a).toInt.natAbs.log2 : Int) - ((nI b).toInt.natAbs.log2 : Int) := by unfold iQ; omega
  generalize hca : iC (nI a) = x at *
  generalize hcb : iC (nI b) = y at *
  generalize hla : (nI a).toInt.natAbs.log2 = la at *
  generalize hlb : (nI b).toInt.natAbs.log2 = lb at *
  generalize heq : iQ (nI a) - iQ (nI b) = e at *
  have hx : x.log2 = 52 := log2_of (by omega) (by omega)
  have hy : y.log2 = 52 := log2_of (by omega) (by omega)
  have hlead : FP.Core.leading x y = if y ≤ x then 0 else -1 := by
    unfold FP.Core.leading
    simp only [hx, hy]
    by_cases h : y ≤ x
    · rw [if_pos h]
      exact if_pos (show y * 2 ^ 0 ≤ x * 2 ^ 0 by omega)
    · rw [if_neg h]
      exact if_neg (show ¬ y * 2 ^ 0 ≤ x * 2 ^ 0 by omega)
  have hdiv : FP.ddiv (FP.i2d (nI a)) (FP.i2d (nI b)) = UInt64.ofNat (FP.Core.encode FP.Core.b64 (FP.Core.roundRatio FP.Core.b64 false x y e)) := by
    show UInt64.ofNat (FP.Core.encode FP.Core.b64 (FP.Core.quotient FP.Core.b64 (FP.Core.decode FP.Core.b64 (FP.i2d (nI a)).toNat) (FP.Core.decode FP.Core.b64 (FP.i2d (nI b)).toNat))) = _
    rw [hda, hdb]
    show UInt64.ofNat (FP.Core.encode FP.Core.b64 (if y = 0 then _ else FP.Core.roundRatio FP.Core.b64 false x y (iQ (nI a) - iQ (nI b)))) = _
    rw [if_neg (by omega), heq]
  have fin : ∀ (c : Nat) (r : Int), FP.Core.roundRatio FP.Core.b64 false x y e = .fin false c r → 4503599627370496 ≤ c → c < 9007199254740992 → -115 ≤ r → r ≤ -52 → ∃ (c : Nat) (r : Int), FP.ddiv (FP.i2d (nI a)) (FP.i2d (nI b)) = dU false c r ∧ 4503599627370496 ≤ c ∧ c < 9007199254740992 ∧ -115 ≤ r ∧ r ≤ -52 := by
    intro c r h1 h2 h3 h4 h5
    refine ⟨c, r, ?_, h2, h3, h4, h5⟩
    rw [hdiv, h1, fd_enc h2]
    rfl
  by_cases hxy : y ≤ x
  · rw [if_pos hxy] at hlead
    have hq : FP.Core.quantum FP.Core.b64 x y e = e - 52 := by
      show max (-1074 : Int) (FP.Core.leading x y + e - (53 - 1)) = e - 52
      rw [hlead]
      omega
    have hN : FP.Core.unitsNum x e (e - 52) = x * 4503599627370496 := by
      unfold FP.Core.unitsNum
      have e1 : (e - (e - 52)).toNat = 52 := by omega
      rw [e1]
    have hD : FP.Core.unitsDen y e (e - 52) = y := by
      unfold FP.Core.unitsDen
      have e1 : (e - 52 - e).toNat = 0 := by omega
      rw [e1, Nat.pow_zero, Nat.mul_one]
    have hnb := near_b (x * 4503599627370496) y
    have hlo : 4503599627370496 ≤ x * 4503599627370496 / y := (Nat.le_div_iff_mul_le (by omega)).mpr (by rw [Nat.mul_comm]; exact Nat.mul_le_mul_right _ hxy)
    have hhi : x * 4503599627370496 / y < 9007199254740992 := (Nat.div_lt_iff_lt_mul (by omega)).mpr (by omega)
    obtain ⟨c, r, h1, h2, h3, h4⟩ := rr_b (A := x) (B := y) (e := e) (q := e - 52) (C := FP.Core.nearest (x * 4503599627370496) y) (by omega) hq (by omega) (by omega) (by rw [hN, hD]) (by omega) (by omega)
    refine fin c r h1 h2 h3 (by omega) ?_
    rcases h4 with h4 | ⟨h4, h5⟩
    · omega
    · rcases Int.lt_or_le e 0 with h6 | h6
      · omega
      · exfalso
        have h7 := hcab (by omega)
        have h8 : x = y := by omega
        rw [h8, Nat.mul_comm, fd_near (by omega)] at h5
        omega
  · rw [if_neg hxy] at hlead
    have hq : FP.Core.quantum FP.Core.b64 x y e = e - 53 := by
      show max (-1074 : Int) (FP.Core.leading x y + e - (53 - 1)) = e - 53
      rw [hlead]
      omega
    have hN : FP.Core.unitsNum x e (e - 53) = x * 9007199254740992 := by
      unfold FP.Core.unitsNum
      have e1 : (e - (e - 53)).toNat = 53 := by omega
      rw [e1]
    have hD : FP.Core.unitsDen y e (e - 53) = y := by
      unfold FP.Core.unitsDen
      have e1 : (e - 53 - e).toNat = 0 := by omega
      rw [e1, Nat.pow_zero, Nat.mul_one]
    have hnb := near_b (x * 9007199254740992) y
    have hlo : 4503599627370496 ≤ x * 9007199254740992 / y := (Nat.le_div_iff_mul_le (by omega)).mpr (by omega)
    have hhi : x * 9007199254740992 / y < 9007199254740992 := (Nat.div_lt_iff_lt_mul (by omega)).mpr (by omega)
    obtain ⟨c, r, h1, h2, h3, h4⟩ := rr_b (A := x) (B := y) (e := e) (q := e - 53) (C := FP.Core.nearest (x * 9007199254740992) y) (by omega) hq (by omega) (by omega) (by rw [hN, hD]) (by omega) (by omega)
    refine fin c r h1 h2 h3 (by omega) ?_
    rcases h4 with h4 | ⟨h4, h5⟩ <;> omega
theorem share_0 {b : Nat} (hb0 : 0 < b) (hb : b < 2 ^ 31) : FP.ddiv (FP.i2d (nI 0)) (FP.i2d (nI b)) = 0 := by
  have tb : (nI b).toInt = (b : Int) := nI_toInt hb
  have nb : ¬ nI b = 0 := nI_ne0 hb0 hb
  obtain ⟨b1, b2, b3, -⟩ := i2d_b nb
  have hdb := dU_dec (s := decide ((nI b).toInt < 0)) b1 b2 (show -1074 ≤ iQ (nI b) by unfold iQ; omega) (by unfold iQ; omega)
  rw [← i2d_U nb, decide_eq_false (show ¬ (nI b).toInt < 0 by omega)] at hdb
  have hda : FP.Core.decode FP.Core.b64 (FP.i2d (nI 0)).toNat = .fin false 0 (-1074) := by decide +kernel
  show UInt64.ofNat (FP.Core.encode FP.Core.b64 (FP.Core.quotient FP.Core.b64 (FP.Core.decode FP.Core.b64 (FP.i2d (nI 0)).toNat) (FP.Core.decode FP.Core.b64 (FP.i2d (nI b)).toNat))) = _
  rw [hda, hdb]
  show UInt64.ofNat (FP.Core.encode FP.Core.b64 (if iC (nI b) = 0 then _ else if (0 : Nat) = 0 then .fin false 0 (-1074) else _)) = _
  rw [if_neg (by omega), if_pos rfl]
  decide +kernel
/-- WhistleTunes.bitsOfShare, what it takes and gives -/
def bsOk (x : UInt64) : Prop := x = 0 ∨ ∃ (c : Nat) (q : Int), x = dU false c q ∧ 4503599627370496 ≤ c ∧ c < 9007199254740992 ∧ -115 ≤ q ∧ q ≤ -52
theorem bs_1 : bsOk FP.dconst1 := Or.inr ⟨4503599627370496, -52, by decide +kernel, by decide, by decide, by decide, by decide⟩
theorem bs_share {a b : Nat} (h0 : 0 < b) (hab : a ≤ b) (hb : b < 2 ^ 31) : bsOk (FP.ddiv (FP.i2d (nI a)) (FP.i2d (nI b))) := by
  rcases Nat.eq_zero_or_pos a with ha | ha
  · subst ha
    exact Or.inl (share_0 h0 hb)
  · obtain ⟨c, r, h⟩ := share_U ha hab hb
    exact Or.inr ⟨c, r, h⟩
