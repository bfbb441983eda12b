theorem i32_a0 (x : Int32) : x + nI 0 = x := Int32.add_zero x
theorem i32_o0 (x : Int32) : x ||| nI 0 = x := Int32.or_zero
theorem a1_ori (x y : Int32) : (x ||| y) &&& nI 1 = (x &&& nI 1) ||| (y &&& nI 1) := by
  refine Int32.toBitVec_inj.mp ?_
  show (x.toBitVec ||| y.toBitVec) &&& (nI 1).toBitVec = (x.toBitVec &&& (nI 1).toBitVec) ||| (y.toBitVec &&& (nI 1).toBitVec)
  ext i hi
  simp only [BitVec.getElem_and, BitVec.getElem_or]
  cases x.toBitVec[i] <;> cases y.toBitVec[i] <;> cases (nI 1).toBitVec[i] <;> rfl
theorem shr_or (x y k : Int32) : iShr (x ||| y) k = iShr x k ||| iShr y k := by
  refine Int32.toBitVec_inj.mp ?_
  show BitVec.sshiftRight' (x.toBitVec ||| y.toBitVec) _ = BitVec.sshiftRight' x.toBitVec _ ||| BitVec.sshiftRight' y.toBitVec _
  exact BitVec.sshiftRight_or_distrib _ _ _
theorem hb_bit (x k : Int32) : iShr x k &&& nI 1 = bI (pHB x k) := by
  unfold pHB
  rcases a1_or (iShr x k) with h | h <;> rw [h] <;> decide
theorem hb_or (x y k : Int32) : bI (pHB (x ||| y) k) = bI (pHB x k) ||| (iShr y k &&& nI 1) := by
  rw [← hb_bit, ← hb_bit, shr_or, a1_ori]
/-- the school behind a whistle -/
def wRem (S : Nat → Nat → Int32) (r m : Nat) (fl he un ca ra : Int32) : Nat → Nat → Int32 := sa (sa (sa (sa (sa (sa (sc S 3 (S 0 3 ||| ra)) 9 (upd (S 9) m (S 9 m + nI 1))) 10 (upd (S 10) m (S 10 m + pBC un))) 12 (upd (S 12) r (S 12 r + pBC ca))) 13 (pCU (S 13) un 6)) 14 (pCN (S 14) he un 6)) 15 (upd (upd (upd (upd (upd (upd (S 15) 0 (nI r)) 1 (nI m)) 2 fl) 3 un) 4 ca) 5 ra)
theorem pRem_w (O S : Nat → Nat → Int32) (r m : Nat) : pRem S (pFor O S r m) r m = wRem S r m (pFHo S r 3) (pHe S r) (pUn S r) (pCa S r m) (pRa S r m) := rfl
theorem pCU_at (f : Nat → Int32) (u : Int32) (n : Nat) : (∀ k : Nat, k < n → pCU f u n k = f k + bI (pHB u (nI k))) ∧ ∀ k : Nat, n ≤ k → pCU f u n k = f k := by
  induction n with
  | zero => exact ⟨fun k hk => absurd hk (Nat.not_lt_zero k), fun k _ => rfl⟩
  | succ n ih =>
    obtain ⟨i1, i2⟩ := ih
    simp only [pCU]
    refine ⟨fun k hk => ?_, fun k hk => ?_⟩
    · by_cases e : k = n
      · rw [e]
        cases hp : pHB u (nI n) with
        | true => rw [if_pos rfl, upd_at, i2 n (Nat.le_refl n)]; rfl
        | false => rw [if_neg (by decide), i2 n (Nat.le_refl n)]; exact (i32_a0 _).symm
      · have e2 : (if pHB u (nI n) = true then upd (pCU f u n) n (pCU f u n n + nI 1) else pCU f u n) k = pCU f u n k := by
          split
          · exact upd_no e
          · rfl
        rw [e2]
        exact i1 k (by omega)
    · have e2 : (if pHB u (nI n) = true then upd (pCU f u n) n (pCU f u n n + nI 1) else pCU f u n) k = pCU f u n k := by
        split
        · exact upd_no (by omega)
        · rfl
      rw [e2]
      exact i2 k (by omega)
theorem pCN_at (f : Nat → Int32) (h u : Int32) (n : Nat) : (∀ k : Nat, k < n → pCN f h u n k = f k + bI (pHB h (nI k) && !pHB u (nI k))) ∧ ∀ k : Nat, n ≤ k → pCN f h u n k = f k := by
  induction n with
  | zero => exact ⟨fun k hk => absurd hk (Nat.not_lt_zero k), fun k _ => rfl⟩
  | succ n ih =>
    obtain ⟨i1, i2⟩ := ih
    simp only [pCN]
    refine ⟨fun k hk => ?_, fun k hk => ?_⟩
    · by_cases e : k = n
      · rw [e]
        cases hp : pHB u (nI n) with
        | true =>
          rw [if_pos rfl, i2 n (Nat.le_refl n)]
          cases pHB h (nI n) <;> exact (i32_a0 _).symm
        | false =>
          rw [if_neg (by decide)]
          cases hq : pHB h (nI n) with
          | true => rw [if_pos rfl, upd_at, i2 n (Nat.le_refl n)]; rfl
          | false => rw [if_neg (by decide), i2 n (Nat.le_refl n)]; exact (i32_a0 _).symm
      · have e2 : (if pHB u (nI n) = true then pCN f h u n else if pHB h (nI n) = true then upd (pCN f h u n) n (pCN f h u n n + nI 1) else pCN f h u n) k = pCN f h u n k := by
          split
          · rfl
          · split
            · exact upd_no e
            · rfl
        rw [e2]
        exact i1 k (by omega)
    · have e2 : (if pHB u (nI n) = true then pCN f h u n else if pHB h (nI n) = true then upd (pCN f h u n) n (pCN f h u n n + nI 1) else pCN f h u n) k = pCN f h u n k := by
        split
        · rfl
        · split
          · exact upd_no (by omega)
          · rfl
      rw [e2]
      exact i2 k (by omega)
theorem pSm_c {f g : Nat → Int32} (n : Nat) (h : ∀ k : Nat, k < n → f k = g k) : pSm f n = pSm g n := by
  induction n with
  | zero => rfl
  | succ n ih =>
    simp only [pSm]
    rw [ih (fun k hk => h k (by omega)), h n (by omega)]
theorem i32_ac (a b c : Int32) : a + b + c = a + c + b := by rw [Int32.add_assoc, Int32.add_comm b c, ← Int32.add_assoc]
theorem pSm_upd (f : Nat → Int32) (v : Int32) {m : Nat} (n : Nat) (h : m < n) : pSm (upd f m (f m + v)) n = pSm f n + v := by
  induction n with
  | zero => exact absurd h (Nat.not_lt_zero m)
  | succ n ih =>
    simp only [pSm]
    by_cases e : m = n
    · rw [← e, upd_at, pSm_c (g := f) m (fun k hk => upd_no (by omega)), Int32.add_assoc]
    · rw [ih (by omega), upd_no (by omega)]
      exact i32_ac _ _ _
section WROW
variable {Y : Nat → Nat → Int32} {r m : Nat}
theorem wh0_no {j : Nat} (h : j < 6 ∨ 11 < j) : mWh0 Y r m j = Y 2 j := by
  unfold mWh0
  rw [upd_no (by omega), upd_no (by omega), upd_no (by omega), upd_no (by omega), upd_no (by omega), upd_no (by omega)]
theorem w1_2 (h kn ra : Int32) (w : Nat → Int32) (k : Nat) : mW1 h kn ra w k (14 + 5 * k + 2) = w (14 + 5 * k + 2) ||| (iShr ra (nI k) &&& nI 1) := by
  have e : mW1b h kn w k (14 + 5 * k + 2) = w (14 + 5 * k + 2) := by
    unfold mW1b
    rw [upd_no (by omega)]
    exact upd_no (by omega)
  unfold mW1
  rw [upd_at, e]
theorem w1_3 (h kn ra : Int32) (w : Nat → Int32) (k : Nat) : mW1 h kn ra w k (14 + 5 * k + 3) = w (14 + 5 * k + 3) + bI (mBit kn k) := by
  unfold mW1 mW1b
  rw [upd_no (by omega), upd_no (by omega)]
  exact upd_at
theorem w1_4 (h kn ra : Int32) (w : Nat → Int32) (k : Nat) : mW1 h kn ra w k (14 + 5 * k + 4) = w (14 + 5 * k + 4) + bI (mBit h k && !mBit kn k) := by
  have e : mW1a kn w k (14 + 5 * k + 4) = w (14 + 5 * k + 4) := upd_no (by omega)
  unfold mW1 mW1b
  rw [upd_no (by omega), upd_at, e]
theorem w1_no (h kn ra : Int32) (w : Nat → Int32) {k j : Nat} (h2 : ¬ j = 14 + 5 * k + 2) (h3 : ¬ j = 14 + 5 * k + 3) (h4 : ¬ j = 14 + 5 * k + 4) : mW1 h kn ra w k j = w j := by
  unfold mW1 mW1b
  rw [upd_no h2, upd_no h4]
  exact upd_no h3
theorem whl_no {n j : Nat} (h : ∀ k : Nat, k < n → ¬ j = 14 + 5 * k + 2 ∧ ¬ j = 14 + 5 * k + 3 ∧ ¬ j = 14 + 5 * k + 4) : mWhL Y r m n j = mWh0 Y r m j := by
  induction n with
  | zero => rfl
  | succ n ih =>
    simp only [mWhL]
    have h9 := h n (by omega)
    rw [w1_no _ _ _ _ h9.1 h9.2.1 h9.2.2]
    exact ih (fun k hk => h k (by omega))
theorem whl_at {n k : Nat} (hk : k < n) : mWhL Y r m n (14 + 5 * k + 2) = Y 2 (14 + 5 * k + 2) ||| (iShr (mRa Y r m) (nI k) &&& nI 1) ∧ mWhL Y r m n (14 + 5 * k + 3) = Y 2 (14 + 5 * k + 3) + bI (mBit (mKn Y r 6) k) ∧ mWhL Y r m n (14 + 5 * k + 4) = Y 2 (14 + 5 * k + 4) + bI (mBit (mHe Y r 6) k && !mBit (mKn Y r 6) k) := by
  induction n with
  | zero => exact absurd hk (Nat.not_lt_zero k)
  | succ n ih =>
    simp only [mWhL]
    by_cases e : k = n
    · rw [e, w1_2, w1_3, w1_4]
      have hn : ∀ j : Nat, 14 + 5 * n + 1 < j → j < 14 + 5 * n + 5 → mWhL Y r m n j = Y 2 j := fun j h1 h2 => by
        rw [whl_no (fun i hi => ⟨by omega, by omega, by omega⟩)]
        exact wh0_no (by omega)
      rw [hn _ (by omega) (by omega), hn _ (by omega) (by omega), hn _ (by omega) (by omega)]
      exact ⟨rfl, rfl, rfl⟩
    · rw [w1_no _ _ _ _ (by omega) (by omega) (by omega), w1_no _ _ _ _ (by omega) (by omega) (by omega), w1_no _ _ _ _ (by omega) (by omega) (by omega)]
      exact ih (by omega)
theorem whF_L {j : Nat} (h5 : ¬ j = 5) (h1 : ¬ j = 14 + 5 * r + 1) (h2 : ¬ j = 47 + 11 * m + 1) (h3 : ¬ j = 47 + 11 * m + 2) : mWhF Y r m j = mWhL Y r m 6 j := by
  unfold mWhF mWh4 mWh3 mWh2
  rw [upd_no h5, upd_no h3, upd_no h2, upd_no h1]
theorem whF_no {j : Nat} (hj : j < 5 ∨ 11 < j) (hr : ∀ k : Nat, k < 6 → ¬ j = 14 + 5 * k + 2 ∧ ¬ j = 14 + 5 * k + 3 ∧ ¬ j = 14 + 5 * k + 4) (h1 : ¬ j = 14 + 5 * r + 1) (h2 : ¬ j = 47 + 11 * m + 1) (h3 : ¬ j = 47 + 11 * m + 2) : mWhF Y r m j = Y 2 j := by
  rw [whF_L (by omega) h1 h2 h3, whl_no hr]
  exact wh0_no (by omega)
theorem whF_late {j : Nat} (h0 : 5 < j) (h1 : j < 12) : mWhF Y r m j = mWh0 Y r m j := by
  rw [whF_L (by omega) (by omega) (by omega) (by omega)]
  exact whl_no (fun k hk => ⟨by omega, by omega, by omega⟩)
theorem whF_5 (hr : r < 6) : mWhF Y r m 5 = Y 2 5 + nI 1 := by
  have e : mWh4 Y r m 5 = Y 2 5 := by
    unfold mWh4 mWh3 mWh2
    rw [upd_no (by omega), upd_no (by omega), upd_no (by omega), whl_no (fun k hk => ⟨by omega, by omega, by omega⟩)]
    exact wh0_no (by omega)
  unfold mWhF
  rw [upd_at, e]
theorem whF_mk (hr : r < 6) : mWhF Y r m (14 + 5 * r + 1) = Y 2 (14 + 5 * r + 1) + mOn (mCa Y r m 3) 6 := by
  have e : mWhL Y r m 6 (14 + 5 * r + 1) = Y 2 (14 + 5 * r + 1) := by
    rw [whl_no (fun k hk => ⟨by omega, by omega, by omega⟩)]
    exact wh0_no (by omega)
  unfold mWhF mWh4 mWh3 mWh2
  rw [upd_no (by omega), upd_no (by omega), upd_no (by omega), upd_at, e]
theorem whF_m1 (hr : r < 6) : mWhF Y r m (47 + 11 * m + 1) = Y 2 (47 + 11 * m + 1) + nI 1 := by
  have e : mWh2 Y r m (47 + 11 * m + 1) = Y 2 (47 + 11 * m + 1) := by
    unfold mWh2
    rw [upd_no (by omega), whl_no (fun k hk => ⟨by omega, by omega, by omega⟩)]
    exact wh0_no (by omega)
  unfold mWhF mWh4 mWh3
  rw [upd_no (by omega), upd_no (by omega), upd_at, e]
theorem whF_m2 (hr : r < 6) : mWhF Y r m (47 + 11 * m + 2) = Y 2 (47 + 11 * m + 2) + mOn (mKn Y r 6) 6 := by
  have e : mWh3 Y r m (47 + 11 * m + 2) = Y 2 (47 + 11 * m + 2) := by
    unfold mWh3 mWh2
    rw [upd_no (by omega), upd_no (by omega), whl_no (fun k hk => ⟨by omega, by omega, by omega⟩)]
    exact wh0_no (by omega)
  unfold mWhF mWh4
  rw [upd_no (by omega), upd_at, e]
theorem whF_234 {k : Nat} (hk : k < 6) : mWhF Y r m (14 + 5 * k + 2) = Y 2 (14 + 5 * k + 2) ||| (iShr (mRa Y r m) (nI k) &&& nI 1) ∧ mWhF Y r m (14 + 5 * k + 3) = Y 2 (14 + 5 * k + 3) + bI (mBit (mKn Y r 6) k) ∧ mWhF Y r m (14 + 5 * k + 4) = Y 2 (14 + 5 * k + 4) + bI (mBit (mHe Y r 6) k && !mBit (mKn Y r 6) k) := by
  rw [whF_L (by omega) (by omega) (by omega) (by omega), whF_L (by omega) (by omega) (by omega) (by omega), whF_L (by omega) (by omega) (by omega) (by omega)]
  exact whl_at hk
end WROW
theorem RS.wh {B : Nat} {S Y : Nat → Nat → Int32} (hR : RS S (Y 2)) (hI : SI B S) {r m : Nat} (hr : r < 6) (hm : m < 20) (O : Nat → Nat → Int32) : RS (pRem S (pFor O S r m) r m) (mWhF Y r m) := by
  have hfl := fl_eq hR hI hr
  have hhe := he_eq hR hI hr
  have hun := un_eq hR hI hr
  have hca := ca_eq hR hI hr hm
  have hra := ra_eq (m := m) hR hI hr
  have houn := (on_eq hun.2.1 hun.2.2).1
  have hoca := (on_eq hca.2.1 (by have := hca.2.2; omega)).1
  rw [pRem_w, hfl.1, hhe.1, hun.1, hca.1, hra.1]
  unfold wRem
  obtain ⟨a, b, c, d, e, f, g, i, j⟩ := hR
  refine ⟨?_, fun q hq => ?_, fun o ho => ?_, fun o k ho hk => ?_, fun k hk => ?_, fun k hk => ?_, fun o i ho hi => ?_, fun q hq => ?_, ?_⟩
  · rw [whF_no (j := 0) (by omega) (fun k hk => ⟨by omega, by omega, by omega⟩) (by omega) (by omega) (by omega), whF_no (j := 1) (by omega) (fun k hk => ⟨by omega, by omega, by omega⟩) (by omega) (by omega) (by omega), whF_no (j := 2) (by omega) (fun k hk => ⟨by omega, by omega, by omega⟩) (by omega) (by omega) (by omega), whF_no (j := 3) (by omega) (fun k hk => ⟨by omega, by omega, by omega⟩) (by omega) (by omega) (by omega), whF_no (j := 4) (by omega) (fun k hk => ⟨by omega, by omega, by omega⟩) (by omega) (by omega) (by omega)]
    simp (disch := omega) only [sa_ne, sc_ne, sc_k]
    exact a
  · obtain ⟨b1, b2, b3, b4⟩ := b q hq
    obtain ⟨-, v3, v4⟩ := whF_234 (Y := Y) (r := r) (m := m) hq
    rw [v3, v4, whF_no (j := 14 + 5 * q) (by omega) (fun k hk => ⟨by omega, by omega, by omega⟩) (by omega) (by omega) (by omega)]
    simp (disch := omega) only [sa_ne, sc_ne, sa_at]
    refine ⟨b1, ?_, ?_, ?_⟩
    · by_cases hqr : q = r
      · rw [hqr, upd_at, whF_mk hr, hoca]
        rw [hqr] at b2
        rw [b2]
      · rw [upd_no hqr, whF_no (j := 14 + 5 * q + 1) (by omega) (fun k hk => ⟨by omega, by omega, by omega⟩) (by omega) (by omega) (by omega)]
        exact b2
    · rw [(pCU_at _ _ 6).1 q hq, b3]
      rfl
    · rw [(pCN_at _ _ _ 6).1 q hq, b4]
      rfl
  · obtain ⟨c1, c2, c3⟩ := c o ho
    rw [whF_no (j := 47 + 11 * o) (by omega) (fun k hk => ⟨by omega, by omega, by omega⟩) (by omega) (by omega) (by omega)]
    simp (disch := omega) only [sa_ne, sc_ne, sa_at]
    refine ⟨c1, ?_, ?_⟩
    · by_cases hom : o = m
      · rw [hom, upd_at, whF_m1 hr]
        rw [hom] at c2
        rw [c2]
      · rw [upd_no hom, whF_no (j := 47 + 11 * o + 1) (by omega) (fun k hk => ⟨by omega, by omega, by omega⟩) (by omega) (by omega) (by omega)]
        exact c2
    · by_cases hom : o = m
      · rw [hom, upd_at, whF_m2 hr, houn]
        rw [hom] at c3
        rw [c3]
      · rw [upd_no hom, whF_no (j := 47 + 11 * o + 2) (by omega) (fun k hk => ⟨by omega, by omega, by omega⟩) (by omega) (by omega) (by omega)]
        exact c3
  · simp (disch := omega) only [sa_ne, sc_ne] at hk ⊢
    have h8 := (hI.2.2.2.2.2.2.1 o ho).1.2.1
    rw [whF_no (j := 47 + 11 * o + (3 + k)) (by omega) (fun k hk => ⟨by omega, by omega, by omega⟩) (by omega) (by omega) (by omega)]
    exact d o k ho hk
  · rw [whF_late (by omega) (by omega), sa_at]
    unfold mWh0
    rcases (show k = 0 ∨ k = 1 ∨ k = 2 ∨ k = 3 ∨ k = 4 ∨ k = 5 by omega) with rfl | rfl | rfl | rfl | rfl | rfl <;> rfl
  · rw [whF_no (j := 12 + k) (by omega) (fun k hk => ⟨by omega, by omega, by omega⟩) (by omega) (by omega) (by omega)]
    simp (disch := omega) only [sa_ne, sc_ne]
    exact f k hk
  · rw [whF_no (j := 44 + i) (by omega) (fun k hk => ⟨by omega, by omega, by omega⟩) (by omega) (by omega) (by omega)]
    simp (disch := omega) only [sa_ne, sc_ne]
    exact g o i ho hi
  · rw [(whF_234 (Y := Y) (r := r) (m := m) hq).1]
    simp (disch := omega) only [sa_ne, sc_at]
    rw [hb_or, i q hq]
  · rw [whF_5 hr, j]
    simp (disch := omega) only [sa_ne, sa_at]
    rw [pSm_upd _ _ 20 hm]
theorem or_all : ∀ x y : Fin 64, nI x.val ||| nI y.val = nI (nOf (nI x.val ||| nI y.val)) ∧ nOf (nI x.val ||| nI y.val) < 64 := by decide +kernel
theorem or_64 {x y : Int32} (hx : x = nI (nOf x) ∧ nOf x < 64) (hy : y = nI (nOf y) ∧ nOf y < 64) : x ||| y = nI (nOf (x ||| y)) ∧ nOf (x ||| y) < 64 := by
  have h := or_all ⟨nOf x, hx.2⟩ ⟨nOf y, hy.2⟩
  simp only [← hx.1, ← hy.1] at h
  exact h
theorem gB_add {x : Int32} {B : Nat} (h : x = nI (nOf x) ∧ nOf x ≤ B) (hB : B + 1 < 2 ^ 31) (b : Bool) : x + bI b = nI (nOf (x + bI b)) ∧ nOf (x + bI b) ≤ B + 1 := by
  cases b
  · have e : x + bI false = x := i32_a0 x
    rw [e]
    exact ⟨h.1, by omega⟩
  · have e : x + bI true = nI (nOf x + 1) := (congrArg (fun z => z + nI 1) h.1).trans (nI_add _ _)
    have h2 := h.2
    rw [e, nOf_n (by omega)]
    exact ⟨rfl, by omega⟩
theorem SI.wh {B : Nat} {S Y : Nat → Nat → Int32} (hR : RS S (Y 2)) (hI : SI B S) {r m : Nat} (hr : r < 6) (hB : B + 1 < 2 ^ 31) (O : Nat → Nat → Int32) : SI (B + 1) (pRem S (pFor O S r m) r m) := by
  have hra0 := (ra_eq (m := m) hR hI hr).1
  have hra := (ra_eq (m := m) hR hI hr).2
  rw [← hra0] at hra
  rw [pRem_w]
  unfold wRem
  obtain ⟨a0, a1, a2, a3, a4, a5, g, i, j⟩ := hI
  have h3 := or_64 a3 hra
  refine ⟨⟨a0.1, by have := a0.2; exact Nat.le_succ_of_le this⟩, a1, a2, h3, a4, a5, g, fun q hq => ?_, j⟩
  obtain ⟨i1, i2, i3⟩ := i q hq
  refine ⟨i1, ?_, ?_⟩
  · have e : ∀ v, sa (sa (sa (sa (sa (sa (sc S 3 (S 0 3 ||| pRa S r m)) 9 (upd (S 9) m (S 9 m + nI 1))) 10 (upd (S 10) m (S 10 m + pBC (pUn S r)))) 12 (upd (S 12) r (S 12 r + pBC (pCa S r m)))) 13 (pCU (S 13) (pUn S r) 6)) 14 (pCN (S 14) (pHe S r) (pUn S r) 6)) 15 v 13 q = S 13 q + bI (pHB (pUn S r) (nI q)) := fun v => (pCU_at (S 13) (pUn S r) 6).1 q hq
    rw [e]
    exact gB_add i2 hB _
  · have e : ∀ v, sa (sa (sa (sa (sa (sa (sc S 3 (S 0 3 ||| pRa S r m)) 9 (upd (S 9) m (S 9 m + nI 1))) 10 (upd (S 10) m (S 10 m + pBC (pUn S r)))) 12 (upd (S 12) r (S 12 r + pBC (pCa S r m)))) 13 (pCU (S 13) (pUn S r) 6)) 14 (pCN (S 14) (pHe S r) (pUn S r) 6)) 15 v 14 q = S 14 q + bI (pHB (pHe S r) (nI q) && !pHB (pUn S r) (nI q)) := fun v => (pCN_at (S 14) (pHe S r) (pUn S r) 6).1 q hq
    rw [e]
    exact gB_add i3 hB _

