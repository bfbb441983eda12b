/-! messages, rooms, counts beside the law's numbers -/
theorem who_all : ∀ v : Fin 8, bI (pHB (nI v.val) (nI 0)) + nI 2 * bI (pHB (nI v.val) (nI 1)) + nI 4 * bI (pHB (nI v.val) (nI 2)) = nI v.val := by decide +kernel
section JML
variable {B : Nat} {S : Nat → Nat → Int32} {fq ft fr fb : Nat → Int32} {tn : Nat → Nat}
theorem jq0 (h : JM B S fq ft fr fb tn) {m : Nat} (hm : m < 20) : pMsg S m 0 = nI (uMy (tn m)) := (jm_m h hm).1
theorem jq1 (h : JM B S fq ft fr fb tn) {m : Nat} (hm : m < 20) : pMsg S m 1 = vWho fb m := by
  obtain ⟨i1, i2⟩ := (h.1.2.2.2.2.2.2.1 m hm).2.1
  have h1 := who_all ⟨nOf (S 8 m), i2⟩
  simp only [← i1] at h1
  have e : ∀ i : Nat, i < 3 → iShr (fb i) (nI m) &&& nI 1 = bI (pHB (S 8 m) (nI i)) := fun i hi => by
    rw [hb_bit, jm_b h hm hi]
    rfl
  unfold vWho
  rw [e 0 (by decide), e 1 (by decide), e 2 (by decide)]
  exact h1.symm
theorem jq2 (h : JM B S fq ft fr fb tn) {m : Nat} (hm : m < 20) : pMsg S m 2 = ft (20 + m) := (jm_m h hm).2.1
theorem jq3 (h : JM B S fq ft fr fb tn) {m : Nat} (hm : m < 20) : pMsg S m 3 = ft (40 + m) := (jm_m h hm).2.2
theorem jqb (h : JM B S fq ft fr fb tn) {m : Nat} (hm : m < 20) : (pBr S m 6).1 = (vBe fq fr fb tn m 6).1 := by rw [jbr h hm (Nat.le_refl 6)]
theorem jqn (h : JM B S fq ft fr fb tn) {m k : Nat} (hm : m < 20) (hk : k < 8) : pNote S m k = if k < uMy (tn m) then nI (uNt (tn m) k) else -1 := by
  have h2 := (jm_tl h hm).2.1
  unfold pNote
  rw [(jm_m h hm).1]
  by_cases h1 : k < uMy (tn m)
  · rw [if_neg (fun q => absurd ((nI_leI (by omega) (by omega)).mp q) (by omega)), if_pos h1]
    exact (jm_n h hm h1).1
  · rw [if_pos ((nI_leI (by omega) (by omega)).mpr (by omega)), if_neg h1]
theorem jr0 (h : JM B S fq ft fr fb tn) {r : Nat} (hr : r < 6) : pRm S r 0 = fr (5 * r) := (jm_r h hr).1
theorem jr1 (h : JM B S fq ft fr fb tn) {r : Nat} (hr : r < 6) : pRm S r 1 = fr (5 * r + 1) := (jm_r h hr).2.1
theorem jr2 (h : JM B S fq ft fr fb tn) {r : Nat} (hr : r < 6) : pRm S r 2 = fr (5 * r + 2) := (jm_r h hr).2.2.2.2.symm
theorem jsil (h : JM B S fq ft fr fb tn) {r : Nat} (hr : r < 6) : pSil S r = decide (¬ fr (5 * r + 1) < fq 4) := by
  unfold pSil
  rw [(jm_r h hr).2.1, (jm_0 h).2.2.2.2]
theorem jr3 (h : JM B S fq ft fr fb tn) {r : Nat} (hr : r < 6) : pRm S r 3 = if fr (5 * r + 1) < fq 4 then nI 0 else nI 1 := by
  show bI (pSil S r) = _
  rw [jsil h hr]
  by_cases h1 : fr (5 * r + 1) < fq 4
  · rw [if_pos h1, decide_eq_false (not_not_intro h1)]
    rfl
  · rw [if_neg h1, decide_eq_true h1]
    rfl
theorem jr4 (h : JM B S fq ft fr fb tn) {r : Nat} (hr : r < 6) : pRm S r 4 = fr (5 * r + 3) := (jm_r h hr).2.2.1
theorem jr5 (h : JM B S fq ft fr fb tn) {r : Nat} (hr : r < 6) : pRm S r 5 = fr (5 * r + 4) := (jm_r h hr).2.2.2.1
theorem jc2 (h : JM B S fq ft fr fb tn) {k : Nat} (hk : k ≤ 20) : pMT S k = sT tn k := by
  induction k with
  | zero => rfl
  | succ k ih =>
    have hz := jm_z h (m := k) (by omega)
    have h2 := (jm_tl h (m := k) (by omega)).2.1
    have h0 := (h.2.2.2 k (by omega)).2
    simp only [pMT, sT]
    rw [ih (by omega), (jm_m h (m := k) (by omega)).1]
    by_cases h1 : tn k = 0
    · rw [if_pos h1, h1, if_pos (by decide)]
      rfl
    · rw [if_neg h1, if_neg (fun q => h1 (h0 (by
        have h3 := (nI_leI (a := uMy (tn k)) (b := 0) (by omega) (by decide)).mp q
        omega)))]
theorem jc4 (h : JM B S fq ft fr fb tn) {k : Nat} (hk : k ≤ 20) : pLT S k = nI (sM tn k) ∧ sM tn k ≤ 8 := by
  induction k with
  | zero => exact ⟨rfl, Nat.zero_le _⟩
  | succ k ih =>
    obtain ⟨i1, i2⟩ := ih (by omega)
    have h2 := (jm_tl h (m := k) (by omega)).2.1
    simp only [pLT, sM]
    rw [i1, (jm_m h (m := k) (by omega)).1]
    by_cases h1 : sM tn k < uMy (tn k)
    · rw [if_pos ((nI_ltI (by omega) (by omega)).mpr h1), if_pos h1]
      exact ⟨rfl, h2⟩
    · rw [if_neg (fun q => h1 ((nI_ltI (by omega) (by omega)).mp q)), if_neg h1]
      exact ⟨rfl, i2⟩
theorem sr_eq {f : Nat → Int32} {w : Nat} (n : Nat) (h : ∀ k : Nat, k < n → f k = fr (5 * k + w)) : pSm f n = sRr fr w n := by
  induction n with
  | zero => rfl
  | succ n ih =>
    show pSm f n + f n = sRr fr w n + fr (5 * n + w)
    rw [ih (fun k hk => h k (by omega)), h n (by omega)]
theorem jc6 (h : JM B S fq ft fr fb tn) : pBC (S 0 3) = sRr fr 2 6 := by
  obtain ⟨i1, i2⟩ := h.1.2.2.2.1
  rw [(on_eq i1 i2).1]
  have e : ∀ k : Nat, k ≤ 6 → mOn (S 0 3) k = sRr fr 2 k := by
    intro k hk
    induction k with
    | zero => rfl
    | succ k ih =>
      show mOn (S 0 3) k + (iShr (S 0 3) (nI k) &&& nI 1) = sRr fr 2 k + fr (5 * k + 2)
      rw [ih (by omega), hb_bit, (jm_r h (r := k) (by omega)).2.2.2.2]
  exact e 6 (Nat.le_refl 6)
theorem jc7 (h : JM B S fq ft fr fb tn) {k : Nat} (hk : k ≤ 6) : pSR S k = sSs fq fr k := by
  induction k with
  | zero => rfl
  | succ k ih =>
    simp only [pSR, sSs]
    rw [ih (by omega), jsil h (r := k) (by omega)]
    by_cases h1 : fr (5 * k + 1) < fq 4
    · rw [if_pos h1, decide_eq_false (not_not_intro h1)]
      rfl
    · rw [if_neg h1, decide_eq_true h1]
      rfl
theorem jc10 (h : JM B S fq ft fr fb tn) {k : Nat} (hk : k ≤ 6) : pRK S (S 0 1) k = sGg fq fr k := by
  induction k with
  | zero => rfl
  | succ k ih =>
    simp only [pRK, sGg]
    rw [ih (by omega), (jm_r h (r := k) (by omega)).1, (jm_0 h).2.1, ite_or]
theorem jsum (h : JM B S fq ft fr fb tn) (hB : 12 * B < 2 ^ 31) : cSh S = cShare (sRr fr 3 6) (sRr fr 3 6 + sRr fr 4 6) ∧ ∃ n : Nat, n < 2 ^ 31 ∧ sRr fr 3 6 + sRr fr 4 6 = nI n := by
  have e4 : pSm (S 13) 6 = sRr fr 3 6 := sr_eq 6 (fun k hk => (jm_r h hk).2.2.1)
  have e5 : pSm (S 14) 6 = sRr fr 4 6 := sr_eq 6 (fun k hk => (jm_r h hk).2.2.2.1)
  have n4 := sm_n (B := B) (f := S 13) 6 (fun k hk => (h.1.2.2.2.2.2.2.2.1 k hk).2.1) (by omega)
  have n5 := sm_n (B := B) (f := S 14) 6 (fun k hk => (h.1.2.2.2.2.2.2.2.1 k hk).2.2) (by omega)
  rw [e4] at n4
  rw [e5] at n5
  refine ⟨?_, nOf (sRr fr 3 6) + nOf (sRr fr 4 6), by have := n4.2; have := n5.2; omega, ?_⟩
  · unfold cSh
    rw [e4, e5]
  · rw [← nI_add, ← n4.1, ← n5.1]
theorem js1 (h : JM B S fq ft fr fb tn) (hB : 12 * B < 2 ^ 31) (h0 : sRr fr 3 6 + sRr fr 4 6 = 0) : cSh S = FP.dconst1 := by
  rw [(jsum h hB).1, h0]
  exact if_neg (by decide)
theorem js2 (h : JM B S fq ft fr fb tn) (hB : 12 * B < 2 ^ 31) (h0 : ¬ sRr fr 3 6 + sRr fr 4 6 = 0) : cSh S = FP.ddiv (FP.i2d (sRr fr 3 6)) (FP.i2d (sRr fr 3 6 + sRr fr 4 6)) := by
  obtain ⟨h1, n, h2, h3⟩ := jsum h hB
  rw [h1]
  have h4 : 0 < n := by
    rcases Nat.eq_zero_or_pos n with q | q
    · rw [q] at h3
      exact absurd h3 h0
    · exact q
  have h5 : (0 : Int32) < sRr fr 3 6 + sRr fr 4 6 := by
    rw [h3]
    have h9 : nI 0 < nI n := nI_lt h4 h2
    exact h9
  exact if_pos h5
/-- shapes: a tune's digits -/
def dgT (tu i : Nat) : Nat := (uNt tu i + 7 - uNt tu 0) % 7
theorem uSh_dg (a b n : Nat) : uSh a n = uSh b n ↔ ∀ i : Nat, i < n → dgT a i = dgT b i := by
  induction n with
  | zero => exact ⟨fun _ i hi => absurd hi (Nat.not_lt_zero i), fun _ => rfl⟩
  | succ n ih =>
    have h1 : dgT a n < 7 := Nat.mod_lt _ (by decide)
    have h2 : dgT b n < 7 := Nat.mod_lt _ (by decide)
    have e1 : uSh a (n + 1) = 8 * uSh a n + dgT a n := rfl
    have e2 : uSh b (n + 1) = 8 * uSh b n + dgT b n := rfl
    constructor
    · intro q i hi
      have h3 : uSh a n = uSh b n ∧ dgT a n = dgT b n := by omega
      rcases Nat.lt_or_ge i n with h4 | h4
      · exact ih.mp h3.1 i h4
      · rw [show i = n by omega]
        exact h3.2
    · intro q
      have h3 := ih.mpr (fun i hi => q i (by omega))
      have h4 := q n (by omega)
      omega
theorem tS_dg (h : JM B S fq ft fr fb tn) {m k : Nat} (hm : m < 20) (hk : k < uMy (tn m)) : tS S m k = dgT (tn m) k := by
  have h1 := jm_n h hm hk
  have h2 := jm_n h (k := 0) hm (by omega)
  have h3 := (tS_v h.1 hm (k := k) (by rw [(jm_tl h hm).1]; exact hk)).2.2
  have h4 : S 7 (m * 8) = nI (uNt (tn m) 0) := h2.1
  rw [h3, h1.1, h4, nOf_n (by omega), nOf_n (by omega)]
  rfl
theorem uNw_iff (tn : Nat → Nat) (m n k : Nat) : uNw tn m n k = true ↔ ∀ o : Nat, o < k → uNb tn m n o = true := by
  induction k with
  | zero => exact ⟨fun _ o ho => absurd ho (Nat.not_lt_zero o), fun _ => rfl⟩
  | succ k ih =>
    simp only [uNw, Bool.and_eq_true]
    rw [ih]
    constructor
    · rintro ⟨b, c⟩ o ho
      rcases Nat.lt_or_ge o k with h4 | h4
      · exact b o h4
      · rw [show o = k by omega]
        exact c
    · intro b
      exact ⟨fun i hi => b i (by omega), b k (by omega)⟩
theorem jnw (h : JM B S fq ft fr fb tn) {m n : Nat} (hm : m < 20) (hn : 0 < n) (hl : n ≤ uMy (tn m)) : mNw (fun _ => stM fq ft fr fb tn) m n m = uNw tn m n m := by
  have hR : RS S ((fun _ : Nat => stM fq ft fr fb tn) 2) := h.2.1
  rw [Bool.eq_iff_iff, mNw_iff, uNw_iff]
  have hb : ∀ o : Nat, o < m → (mBA (fun _ => stM fq ft fr fb tn) m o n n = true ↔ ¬ uNb tn m n o = true) := by
    intro o ho
    have h2 := (jm_tl h (m := o) (by omega))
    have h3 := (jm_tl h hm)
    rw [mBA_iff, sm_0]
    unfold uNb
    rw [decide_eq_true_eq, uSh_dg]
    have h5 : nI (uMy (tn o)) < nI n ↔ uMy (tn o) < n := nI_ltI (by omega) (by omega)
    rw [h5]
    have hk : n ≤ uMy (tn o) → ∀ i : Nat, i < n → (mSh (fun _ => stM fq ft fr fb tn) m i = mSh (fun _ => stM fq ft fr fb tn) o i ↔ dgT (tn o) i = dgT (tn m) i) := by
      intro h6 i hi
      rw [sh_v hR h.1 hm (by rw [h3.1]; omega), sh_v hR h.1 (m := o) (by omega) (by rw [h2.1]; omega), tS_dg h hm (by omega), tS_dg h (m := o) (by omega) (by omega)]
      have h7 : dgT (tn m) i < 7 := Nat.mod_lt _ (by decide)
      have h8 : dgT (tn o) i < 7 := Nat.mod_lt _ (by decide)
      rw [nI_eq (by omega) (by omega)]
      exact ⟨fun q => q.symm, fun q => q.symm⟩
    constructor
    · rintro ⟨a, b⟩ (c | c)
      · exact a c
      · exact c (fun i hi => (hk (by omega) i hi).mp (b i hi))
    · intro q
      have h6 : ¬ uMy (tn o) < n := fun c => q (Or.inl c)
      refine ⟨h6, fun i hi => (hk (by omega) i hi).mpr ?_⟩
      rcases ex_diff (fun i => dgT (tn o) i) (fun i => dgT (tn m) i) n with c | ⟨j, hj, c⟩
      · exact c i hi
      · exact absurd (Or.inr (fun c2 => c (c2 j hj))) q
  constructor
  · intro q o ho
    rcases Bool.eq_false_or_eq_true (uNb tn m n o) with c | c
    · exact c
    · exact absurd ((hb o ho).mpr (by rw [c]; decide)) (by rw [q o ho]; decide)
  · intro q o ho
    rcases Bool.eq_false_or_eq_true (mBA (fun _ => stM fq ft fr fb tn) m o n n) with c | c
    · exact absurd (q o ho) ((hb o ho).mp c)
    · exact c
theorem jn1 (h : JM B S fq ft fr fb tn) {m n t0 : Nat} (hm : m < 20) (hl : n ≤ uMy (tn m)) : mNd1 (fun _ => stM fq ft fr fb tn) m t0 n = uN1 tn m t0 n := by
  induction n with
  | zero => rfl
  | succ n ih =>
    simp only [mNd1, uN1]
    rw [ih (by omega), jnw h hm (by omega) hl]
theorem jnd (h : JM B S fq ft fr fb tn) : (tG S (tlF S) 20).2.2 = uNd tn 20 := by
  have hR : RS S ((fun _ : Nat => stM fq ft fr fb tn) 2) := h.2.1
  rw [nd_eq (Z := fun _ => stM fq ft fr fb tn) hR h.1]
  have e : ∀ k : Nat, k ≤ 20 → mNd (fun _ => stM fq ft fr fb tn) (tlF S) k = uNd tn k := by
    intro k hk
    induction k with
    | zero => rfl
    | succ k ih =>
      simp only [mNd, uNd]
      rw [ih (by omega), (jm_tl h (m := k) (by omega)).1, jn1 h (by omega) (Nat.le_refl _)]
  exact e 20 (Nat.le_refl 20)
theorem uN1_le (tn : Nat → Nat) (m t0 n : Nat) : uN1 tn m t0 n ≤ t0 + n := by
  induction n with
  | zero => exact Nat.le_refl _
  | succ n ih =>
    simp only [uN1]
    split <;> omega
theorem uNd_le {k : Nat} (h : ∀ i : Nat, i < 20 → tn i < 167772160) (hk : k ≤ 20) : uNd tn k ≤ 9 * k := by
  induction k with
  | zero => exact Nat.le_refl _
  | succ k ih =>
    have h1 := uN1_le tn k (uNd tn k) (uMy (tn k))
    have h2 := uMy_9 (h k (by omega))
    have h3 := ih (by omega)
    simp only [uNd]
    omega
end JML
