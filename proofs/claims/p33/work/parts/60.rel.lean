/-- a school and a row -/
def RS (S : Nat → Nat → Int32) (st : Nat → Int32) : Prop :=
  (S 0 0 = st 0 ∧ S 0 1 = st 1 ∧ S 0 2 = st 2 ∧ S 5 0 = st 3 ∧ S 5 1 = st 4) ∧
  (∀ r : Nat, r < 6 → S 11 r = st (14 + 5 * r) ∧ S 12 r = st (14 + 5 * r + 1) ∧ S 13 r = st (14 + 5 * r + 3) ∧ S 14 r = st (14 + 5 * r + 4)) ∧
  (∀ m : Nat, m < 20 → S 6 m = st (47 + 11 * m) ∧ S 9 m = st (47 + 11 * m + 1) ∧ S 10 m = st (47 + 11 * m + 2)) ∧
  (∀ m k : Nat, m < 20 → k < nOf (S 6 m) → S 7 (m * 8 + k) = st (47 + 11 * m + (3 + k))) ∧
  (∀ k : Nat, k < 6 → S 15 k = st (6 + k)) ∧ (∀ k : Nat, k < 2 → S 16 k = st (12 + k)) ∧
  (∀ m i : Nat, m < 20 → i < 3 → pHB (S 8 m) (nI i) = decide (iShr (st (44 + i)) (nI m) &&& nI 1 = nI 1)) ∧
  (∀ r : Nat, r < 6 → st (14 + 5 * r + 2) = bI (pHB (S 0 3) (nI r))) ∧
  st 5 = pSm (S 9) 20
/-- two messages of one shape -/
def sameSh (S : Nat → Nat → Int32) (m o : Nat) : Prop := nOf (S 6 m) = nOf (S 6 o) ∧ ∀ k : Nat, k < nOf (S 6 m) → (nOf (S 7 (m * 8 + k)) + 7 - nOf (S 7 (m * 8))) % 7 = (nOf (S 7 (o * 8 + k)) + 7 - nOf (S 7 (o * 8))) % 7
/-- what a school keeps; B bounds what grows -/
def SI (B : Nat) (S : Nat → Nat → Int32) : Prop :=
  (S 0 0 = nI (nOf (S 0 0)) ∧ nOf (S 0 0) ≤ B) ∧ (S 0 1 = nI (nOf (S 0 1)) ∧ nOf (S 0 1) < 7) ∧ (S 0 2 = nI (nOf (S 0 2)) ∧ nOf (S 0 2) < 8) ∧ (S 0 3 = nI (nOf (S 0 3)) ∧ nOf (S 0 3) < 64) ∧
  (S 5 0 = nI (nOf (S 5 0)) ∧ nOf (S 5 0) < 3) ∧ (S 5 1 = nI (nOf (S 5 1)) ∧ nOf (S 5 1) < 10) ∧
  (∀ m : Nat, m < 20 → (S 6 m = nI (nOf (S 6 m)) ∧ nOf (S 6 m) ≤ 8 ∧ nOf (S 6 m) ≠ 1) ∧ (S 8 m = nI (nOf (S 8 m)) ∧ nOf (S 8 m) < 8) ∧ ∀ k : Nat, k < nOf (S 6 m) → S 7 (m * 8 + k) = nI (nOf (S 7 (m * 8 + k))) ∧ nOf (S 7 (m * 8 + k)) < 7) ∧
  (∀ r : Nat, r < 6 → (S 11 r = nI (nOf (S 11 r)) ∧ nOf (S 11 r) < 7) ∧ (S 13 r = nI (nOf (S 13 r)) ∧ nOf (S 13 r) ≤ B) ∧ (S 14 r = nI (nOf (S 14 r)) ∧ nOf (S 14 r) ≤ B)) ∧
  (∀ m o : Nat, m < 20 → o < 20 → m ≠ o → 0 < nOf (S 6 m) → ¬ sameSh S m o)
theorem pNr_e {S P : Nat → Nat → Int32} (h : S 5 0 = P 5 0) (a b : Nat) : pNr S a b = pNr P a b := by unfold pNr; rw [h]
theorem pFA_e {S P : Nat → Nat → Int32} (h : S 5 0 = P 5 0) (f k : Nat) : pFA S f k = pFA P f k := by
  induction k with
  | zero => rfl
  | succ k ih => simp only [pFA]; rw [ih, pNr_e h]
theorem pFHi_e {S P : Nat → Nat → Int32} (h : S 5 0 = P 5 0) (h2 : S 0 2 = P 0 2) (x : Int32) (k : Nat) : pFHi S x k = pFHi P x k := by
  induction k with
  | zero => rfl
  | succ k ih => simp only [pFHi]; rw [ih, pFA_e h, h2]
theorem pFHo_e {S P : Nat → Nat → Int32} (h : S 5 0 = P 5 0) (h2 : S 0 2 = P 0 2) (r k : Nat) : pFHo S r k = pFHo P r k := by
  induction k with
  | zero => exact pFA_e h _ _
  | succ k ih => simp only [pFHo]; rw [ih, pFHi_e h h2]
/-- a school, a row of which only reach and lookouts are known -/
def tSx (a b : Nat) : Nat → Nat → Int32 := fun j k => if j = 5 then nI a else nI b
def tYx (a b : Nat) : Nat → Nat → Int32 := fun _ k => if k = 3 then nI a else nI b
theorem fl_all : ∀ (a : Fin 3) (b : Fin 8) (f : Fin 3), pFHo (tSx a.val b.val) (2 * f.val) 3 = mF2 (tYx a.val b.val) f.val 27 ∧ mF2 (tYx a.val b.val) f.val 27 = nI (nOf (mF2 (tYx a.val b.val) f.val 27)) ∧ nOf (mF2 (tYx a.val b.val) f.val 27) < 8 := by decide +kernel
theorem pFHo_r {S : Nat → Nat → Int32} {r r' : Nat} (h : r / 2 = r' / 2) (k : Nat) : pFHo S r k = pFHo S r' k := by
  induction k with
  | zero => show pFA S (r / 2) 3 = pFA S (r' / 2) 3; rw [h]
  | succ k ih => simp only [pFHo]; rw [ih]
theorem fl_eq {S Y : Nat → Nat → Int32} {B : Nat} (hR : RS S (Y 2)) (hI : SI B S) {r : Nat} (hr : r < 6) : pFHo S r 3 = mF2 Y (r / 2) 27 ∧ mF2 Y (r / 2) 27 = nI (nOf (mF2 Y (r / 2) 27)) ∧ nOf (mF2 Y (r / 2) 27) < 8 := by
  obtain ⟨⟨-, -, r2, r3, -⟩, -⟩ := hR
  obtain ⟨-, -, ⟨i2, i3⟩, -, ⟨i4, i5⟩, -⟩ := hI
  have h1 := fl_all ⟨nOf (S 5 0), i5⟩ ⟨nOf (S 0 2), i3⟩ ⟨r / 2, by omega⟩
  have e1 : pFHo S r 3 = pFHo (tSx (nOf (S 5 0)) (nOf (S 0 2))) (2 * (r / 2)) 3 := (pFHo_e (P := tSx (nOf (S 5 0)) (nOf (S 0 2))) i4 i2 r 3).trans (pFHo_r (by omega) 3)
  have e2 : mF2 Y (r / 2) 27 = mF2 (tYx (nOf (S 5 0)) (nOf (S 0 2))) (r / 2) 27 := mF2_e (r2.symm.trans i2) (r3.symm.trans i4) _ _
  rw [e1, e2]
  exact h1
def heF (F : Int32) (r : Nat) : Nat → Int32 | 0 => nI 0 | k + 1 => heF F r k ||| (if !decide (k = r) && decide (iShr F (nI (k / 2)) &&& nI 1 = nI 1) then iShl (nI 1) (nI k) else nI 0)
theorem heF_e (Y : Nat → Nat → Int32) (r k : Nat) : mHe Y r k = heF (mF2 Y (r / 2) 27) r k := by
  induction k with
  | zero => rfl
  | succ k ih => simp only [mHe, heF]; rw [ih]
theorem he_all : ∀ (c : Fin 8) (r : Fin 6), pRO (nI c.val) 6 &&& (iShl (nI 1) (nI r.val) ^^^ -1) = heF (nI c.val) r.val 6 ∧ heF (nI c.val) r.val 6 = nI (nOf (heF (nI c.val) r.val 6)) ∧ nOf (heF (nI c.val) r.val 6) < 64 := by decide +kernel
theorem he_eq {S Y : Nat → Nat → Int32} {B : Nat} (hR : RS S (Y 2)) (hI : SI B S) {r : Nat} (hr : r < 6) : pHe S r = mHe Y r 6 ∧ mHe Y r 6 = nI (nOf (mHe Y r 6)) ∧ nOf (mHe Y r 6) < 64 := by
  obtain ⟨h1, h2, h3⟩ := fl_eq hR hI hr
  have h4 := he_all ⟨nOf (mF2 Y (r / 2) 27), h3⟩ ⟨r, hr⟩
  simp only [← h2] at h4
  rw [heF_e]
  refine ⟨?_, h4.2⟩
  unfold pHe
  rw [h1]
  exact h4.1
def ef (e0 e1 e2 e3 e4 e5 : Bool) : Nat → Bool | 0 => e0 | 1 => e1 | 2 => e2 | 3 => e3 | 4 => e4 | _ => e5
theorem ef_e (e : Nat → Bool) {k : Nat} (hk : k < 6) : ef (e 0) (e 1) (e 2) (e 3) (e 4) (e 5) k = e k := by
  rcases (show k = 0 ∨ k = 1 ∨ k = 2 ∨ k = 3 ∨ k = 4 ∨ k = 5 by omega) with rfl | rfl | rfl | rfl | rfl | rfl <;> rfl
def knF (H : Int32) (e : Nat → Bool) : Nat → Int32 | 0 => H | k + 1 => knF H e k &&& (if e k then knF H e k else iShl (nI 1) (nI k) ^^^ -1)
def rkF (e : Nat → Bool) : Nat → Int32 | 0 => nI 0 | k + 1 => if e k then rkF e k ||| iShl (nI 1) (nI k) else rkF e k
theorem knF_c {H : Int32} {e e' : Nat → Bool} {n : Nat} (h : ∀ k : Nat, k < n → e k = e' k) : knF H e n = knF H e' n := by
  induction n with
  | zero => rfl
  | succ n ih => simp only [knF]; rw [ih (fun k hk => h k (by omega)), h n (by omega)]
theorem rkF_c {e e' : Nat → Bool} {n : Nat} (h : ∀ k : Nat, k < n → e k = e' k) : rkF e n = rkF e' n := by
  induction n with
  | zero => rfl
  | succ n ih => simp only [rkF]; rw [ih (fun k hk => h k (by omega)), h n (by omega)]
theorem kn_all : ∀ (e0 e1 e2 e3 e4 e5 : Bool) (h : Fin 64), nI h.val &&& rkF (ef e0 e1 e2 e3 e4 e5) 6 = knF (nI h.val) (ef e0 e1 e2 e3 e4 e5) 6 ∧ knF (nI h.val) (ef e0 e1 e2 e3 e4 e5) 6 = nI (nOf (knF (nI h.val) (ef e0 e1 e2 e3 e4 e5) 6)) ∧ nOf (knF (nI h.val) (ef e0 e1 e2 e3 e4 e5) 6) < 64 := by decide +kernel
theorem kn_any (e : Nat → Bool) {h : Nat} (hh : h < 64) : nI h &&& rkF e 6 = knF (nI h) e 6 ∧ knF (nI h) e 6 = nI (nOf (knF (nI h) e 6)) ∧ nOf (knF (nI h) e 6) < 64 := by
  have h1 := kn_all (e 0) (e 1) (e 2) (e 3) (e 4) (e 5) ⟨h, hh⟩
  rw [knF_c (e := ef (e 0) (e 1) (e 2) (e 3) (e 4) (e 5)) (e' := e) (n := 6) (fun k hk => ef_e e hk), rkF_c (e := ef (e 0) (e 1) (e 2) (e 3) (e 4) (e 5)) (e' := e) (n := 6) (fun k hk => ef_e e hk)] at h1
  exact h1
def keB (Y : Nat → Nat → Int32) (r k : Nat) : Bool := decide (Y 2 (14 + 5 * k) = Y 2 (14 + 5 * r))
theorem knF_e (Y : Nat → Nat → Int32) (r k : Nat) : mKn Y r k = knF (mHe Y r 6) (keB Y r) k := by
  induction k with
  | zero => rfl
  | succ k ih =>
    simp only [mKn, knF, keB]
    rw [ih]
    by_cases h : Y 2 (14 + 5 * k) = Y 2 (14 + 5 * r)
    · simp only [if_pos h, decide_eq_true h, if_true]
    · simp only [if_neg h, decide_eq_false h, Bool.false_eq_true, if_false]
theorem rkF_e {S Y : Nat → Nat → Int32} (hR : RS S (Y 2)) {r : Nat} (hr : r < 6) {k : Nat} (hk : k ≤ 6) : pRK S (S 11 r) k = rkF (keB Y r) k := by
  induction k with
  | zero => rfl
  | succ k ih =>
    simp only [pRK, rkF, keB]
    rw [ih (by omega), (hR.2.1 k (by omega)).1, (hR.2.1 r hr).1]
    by_cases h : Y 2 (14 + 5 * k) = Y 2 (14 + 5 * r)
    · simp only [if_pos h, decide_eq_true h, if_true]
    · simp only [if_neg h, decide_eq_false h, Bool.false_eq_true, if_false]
theorem un_eq {S Y : Nat → Nat → Int32} {B : Nat} (hR : RS S (Y 2)) (hI : SI B S) {r : Nat} (hr : r < 6) : pUn S r = mKn Y r 6 ∧ mKn Y r 6 = nI (nOf (mKn Y r 6)) ∧ nOf (mKn Y r 6) < 64 := by
  obtain ⟨h1, h2, h3⟩ := he_eq hR hI hr
  have h4 := kn_any (keB Y r) h3
  simp only [← h2] at h4
  rw [knF_e]
  refine ⟨?_, h4.2⟩
  unfold pUn
  rw [h1, rkF_e hR hr (Nat.le_refl _)]
  exact h4.1
def caF (b c : Nat → Bool) : Nat → Int32 | 0 => nI 0 | k + 1 => caF b c k ||| (if b k && c k then iShl (nI 1) (nI k) else nI 0)
theorem ca_all : ∀ (b0 b1 b2 : Bool) (f : Fin 8), rkF (ef b0 b1 b2 b2 b2 b2) 3 &&& nI f.val = caF (ef b0 b1 b2 b2 b2 b2) (fun k => pHB (nI f.val) (nI k)) 3 ∧ caF (ef b0 b1 b2 b2 b2 b2) (fun k => pHB (nI f.val) (nI k)) 3 = nI (nOf (caF (ef b0 b1 b2 b2 b2 b2) (fun k => pHB (nI f.val) (nI k)) 3)) ∧ nOf (caF (ef b0 b1 b2 b2 b2 b2) (fun k => pHB (nI f.val) (nI k)) 3) < 8 := by decide +kernel
theorem caF_c {b b' c c' : Nat → Bool} {n : Nat} (h : ∀ k : Nat, k < n → b k = b' k ∧ c k = c' k) : caF b c n = caF b' c' n := by
  induction n with
  | zero => rfl
  | succ n ih => simp only [caF]; rw [ih (fun k hk => h k (by omega)), (h n (by omega)).1, (h n (by omega)).2]
theorem pMO_e (S : Nat → Nat → Int32) (x : Int32) (k : Nat) : pMO S x k = rkF (fun k => pHB x (iRem (nI k + S 0 0) (nI 3))) k := by
  induction k with
  | zero => rfl
  | succ k ih => simp only [pMO, rkF]; rw [ih]
theorem mCa_e (Y : Nat → Nat → Int32) (r m k : Nat) : mCa Y r m k = caF (fun k => decide (iShr (mF2 Y (r / 2) 27) (iRem (nI k + Y 2 0) (nI 3)) &&& nI 1 = nI 1)) (fun k => decide (iShr (Y 2 (44 + k)) (nI m) &&& nI 1 = nI 1)) k := by
  induction k with
  | zero => rfl
  | succ k ih => simp only [mCa, caF, mCaB]; rw [ih]; rfl
theorem ca_eq {S Y : Nat → Nat → Int32} {B : Nat} (hR : RS S (Y 2)) (hI : SI B S) {r m : Nat} (hr : r < 6) (hm : m < 20) : pCa S r m = mCa Y r m 3 ∧ mCa Y r m 3 = nI (nOf (mCa Y r m 3)) ∧ nOf (mCa Y r m 3) < 8 := by
  obtain ⟨h1, h2, h3⟩ := fl_eq hR hI hr
  have hb := hR.2.2.2.2.2.2.1
  have h0 := hR.1.1
  obtain ⟨i1, i2⟩ := (hI.2.2.2.2.2.2.1 m hm).2.1
  generalize hbb : (fun k : Nat => pHB (mF2 Y (r / 2) 27) (iRem (nI k + Y 2 0) (nI 3))) = b
  have h4 := ca_all (b 0) (b 1) (b 2) ⟨nOf (S 8 m), i2⟩
  simp only [← i1] at h4
  have e1 : rkF (ef (b 0) (b 1) (b 2) (b 2) (b 2) (b 2)) 3 = rkF b 3 := rkF_c (fun k hk => by rcases (show k = 0 ∨ k = 1 ∨ k = 2 by omega) with rfl | rfl | rfl <;> rfl)
  have e2 : caF (ef (b 0) (b 1) (b 2) (b 2) (b 2) (b 2)) (fun k => pHB (S 8 m) (nI k)) 3 = mCa Y r m 3 := by
    rw [mCa_e]
    refine caF_c (fun k hk => ⟨?_, hb m k hm hk⟩)
    have e3 : ef (b 0) (b 1) (b 2) (b 2) (b 2) (b 2) k = b k := by rcases (show k = 0 ∨ k = 1 ∨ k = 2 by omega) with rfl | rfl | rfl <;> rfl
    rw [e3, ← hbb]
    rfl
  rw [e1, e2] at h4
  refine ⟨?_, h4.2⟩
  unfold pCa
  rw [h1, pMO_e, h0, hbb]
  exact h4.1
theorem ra_eq {S Y : Nat → Nat → Int32} {B : Nat} (hR : RS S (Y 2)) (hI : SI B S) {r m : Nat} (hr : r < 6) : pRa S r m = mRa Y r m ∧ mRa Y r m = nI (nOf (mRa Y r m)) ∧ nOf (mRa Y r m) < 64 := by
  obtain ⟨h1, h2, h3⟩ := un_eq hR hI hr
  have e1 : pRa S r m = mRa Y r m := by
    unfold pRa mRa
    rw [h1, (hR.2.1 r hr).1, hR.1.2.1]
  refine ⟨e1, ?_⟩
  unfold mRa
  split
  · exact ⟨h2, h3⟩
  · exact ⟨by decide, by decide⟩
theorem wy_eq {S Y : Nat → Nat → Int32} (hR : RS S (Y 2)) {r m : Nat} (hr : r < 6) (hm : m < 20) : pWhy S r m = mWy Y r m := by
  unfold pWhy mWy pSil mSi
  rw [(hR.2.1 r hr).2.1, hR.1.2.2.2.2, (hR.2.2.1 m hm).1]
  by_cases h : Y 2 (14 + 5 * r + 1) < Y 2 4
  · simp [h]
  · simp [h]
theorem on_all : ∀ h : Fin 64, pBC (nI h.val) = mOn (nI h.val) 6 ∧ mOn (nI h.val) 6 = nI (nOf (mOn (nI h.val) 6)) ∧ nOf (mOn (nI h.val) 6) ≤ 6 := by decide +kernel
theorem on_eq {x : Int32} (h : x = nI (nOf x)) (h2 : nOf x < 64) : pBC x = mOn x 6 ∧ mOn x 6 = nI (nOf (mOn x 6)) ∧ nOf (mOn x 6) ≤ 6 := by
  have h1 := on_all ⟨nOf x, h2⟩
  simp only [← h] at h1
  exact h1
theorem si_eq {S Y : Nat → Nat → Int32} (hR : RS S (Y 2)) {r : Nat} (hr : r < 6) : pSil S r = mSi Y r := by
  unfold pSil mSi
  rw [(hR.2.1 r hr).2.1, hR.1.2.2.2.2, ← decide_not]
theorem if_eq {S Y : Nat → Nat → Int32} {B : Nat} (hR : RS S (Y 2)) (hI : SI B S) {r m k : Nat} (hr : r < 6) (hm : m < 20) (hk : k < 4) : pIf S r m k = mWB Y r m k := by
  unfold pIf mWB
  rw [wy_eq hR hr hm]
  split
  · rcases (show k = 0 ∨ k = 1 ∨ k = 2 ∨ k = 3 by omega) with rfl | rfl | rfl | rfl
    · exact (he_eq hR hI hr).1
    · exact (un_eq hR hI hr).1
    · exact (ca_eq hR hI hr hm).1
    · exact (ra_eq hR hI hr).1
  · rfl
/-- the best room -/
theorem br_eq {S Y : Nat → Nat → Int32} {B : Nat} (hR : RS S (Y 2)) (hI : SI B S) {m : Nat} (hm : m < 20) {k : Nat} (hk : k ≤ 6) : (pBr S m k).1 = (mFr Y m k).1 ∧ ((pBr S m k).1 = -1 ∧ (pBr S m k).2 = -1 ∧ (mFr Y m k).2 = nI 0 ∨ ¬ (pBr S m k).1 = -1 ∧ (pBr S m k).2 = (mFr Y m k).2) := by
  induction k with
  | zero => exact ⟨rfl, Or.inl ⟨rfl, rfl, rfl⟩⟩
  | succ k ih =>
    obtain ⟨i1, i2⟩ := ih (by omega)
    have hu := un_eq hR hI (r := k) (by omega)
    have ho := on_eq hu.2.1 hu.2.2
    have hc := (ca_eq hR hI (r := k) (by omega) hm).1
    have hw := wy_eq hR (r := k) (by omega) hm
    have hn : ¬ pBC (pUn S k) ≤ -1 := by
      rw [hu.1, ho.1, ho.2.1]
      intro q
      have := Int32.le_iff_toInt_le.mp q
      rw [nI_toInt (by omega), show (-1 : Int32).toInt = -1 by decide] at this
      omega
    have hcond : (pCa S k m = 0 ∧ pWhy S k m = 0 ∧ ¬ pBC (pUn S k) ≤ (pBr S m k).2) ↔ mFm Y m k (mFr Y m k) = true := by
      unfold mFm mFc
      rw [hc, hw]
      simp only [Bool.and_eq_true, Bool.or_eq_true, decide_eq_true_eq, Bool.not_eq_true', decide_eq_false_iff_not]
      rcases i2 with ⟨j1, j2, j3⟩ | ⟨j1, j2⟩
      · rw [j2]
        constructor
        · rintro ⟨a1, a2, a3⟩
          exact ⟨⟨a2, a1⟩, Or.inl (i1.symm.trans j1)⟩
        · rintro ⟨⟨a1, a2⟩, -⟩
          exact ⟨a2, a1, hn⟩
      · rw [j2, hu.1, ho.1]
        constructor
        · rintro ⟨a1, a2, a3⟩
          exact ⟨⟨a2, a1⟩, Or.inr a3⟩
        · rintro ⟨⟨a1, a2⟩, a3⟩
          refine ⟨a2, a1, ?_⟩
          rcases a3 with a3 | a3
          · exact absurd (i1.trans a3) j1
          · exact a3
    by_cases h : pCa S k m = 0 ∧ pWhy S k m = 0 ∧ ¬ pBC (pUn S k) ≤ (pBr S m k).2
    · have e1 : pBr S m (k + 1) = (nI k, pBC (pUn S k)) := if_pos h
      have e2 : mFr Y m (k + 1) = (nI k, mOn (mKn Y k 6) 6) := if_pos (hcond.mp h)
      rw [e1, e2]
      exact ⟨rfl, Or.inr ⟨nI_ne1 (by omega), by show pBC (pUn S k) = mOn (mKn Y k 6) 6; rw [hu.1, ho.1]⟩⟩
    · have e1 : pBr S m (k + 1) = pBr S m k := if_neg h
      have e2 : mFr Y m (k + 1) = mFr Y m k := if_neg (fun q => h (hcond.mpr q))
      rw [e1, e2]
      exact ⟨i1, i2⟩

