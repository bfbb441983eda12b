theorem d7_all : ∀ a b : Fin 7, nFM (nI a.val - nI b.val) = (a.val + 7 - b.val) % 7 ∧ iRem (nI a.val - nI b.val + nI 7) (nI 7) = nI ((a.val + 7 - b.val) % 7) ∧ iRem (nI a.val + nI b.val) (nI 7) = nI ((a.val + b.val) % 7) := by decide +kernel
theorem d7 {x y : Int32} (hx : x = nI (nOf x) ∧ nOf x < 7) (hy : y = nI (nOf y) ∧ nOf y < 7) : nFM (x - y) = (nOf x + 7 - nOf y) % 7 ∧ iRem (x - y + nI 7) (nI 7) = nI ((nOf x + 7 - nOf y) % 7) ∧ iRem (x + y) (nI 7) = nI ((nOf x + nOf y) % 7) := by
  have h := d7_all ⟨nOf x, hx.2⟩ ⟨nOf y, hy.2⟩
  simp only [← hx.1, ← hy.1] at h
  exact h
theorem mHSl_iff (Z : Nat → Nat → Int32) (m n k : Nat) : mHSl Z m n k = true ↔ Z 2 (47 + 11 * m) = nI n ∧ ∀ i : Nat, i < k → mSh Z m i = mShT Z i := by
  induction k with
  | zero =>
    simp only [mHSl, decide_eq_true_eq]
    exact ⟨fun h => ⟨h, fun i hi => absurd hi (Nat.not_lt_zero i)⟩, fun h => h.1⟩
  | succ k ih =>
    simp only [mHSl, Bool.and_eq_true, decide_eq_true_eq]
    rw [ih]
    constructor
    · rintro ⟨⟨a, b⟩, c⟩
      exact ⟨a, all_s b c⟩
    · rintro ⟨a, b⟩
      exact ⟨⟨a, fun i hi => b i (by omega)⟩, b k (by omega)⟩
theorem mBA_iff (Z : Nat → Nat → Int32) (m o n k : Nat) : mBA Z m o n k = true ↔ ¬ Z 2 (47 + 11 * o) < nI n ∧ ∀ i : Nat, i < k → mSh Z m i = mSh Z o i := by
  induction k with
  | zero =>
    simp only [mBA, Bool.not_eq_true', decide_eq_false_iff_not]
    exact ⟨fun h => ⟨h, fun i hi => absurd hi (Nat.not_lt_zero i)⟩, fun h => h.1⟩
  | succ k ih =>
    simp only [mBA, Bool.and_eq_true, decide_eq_true_eq]
    rw [ih]
    constructor
    · rintro ⟨⟨a, b⟩, c⟩
      exact ⟨a, all_s b c⟩
    · rintro ⟨a, b⟩
      exact ⟨⟨a, fun i hi => b i (by omega)⟩, b k (by omega)⟩
theorem mNw_iff (Z : Nat → Nat → Int32) (m n k : Nat) : mNw Z m n k = true ↔ ∀ o : Nat, o < k → mBA Z m o n n = false := by
  induction k with
  | zero => exact ⟨fun _ o ho => absurd ho (Nat.not_lt_zero o), fun _ => rfl⟩
  | succ k ih =>
    simp only [mNw, Bool.and_eq_true, Bool.not_eq_true']
    rw [ih]
    constructor
    · rintro ⟨b, c⟩
      exact all_s b c
    · intro b
      exact ⟨fun i hi => b i (by omega), b k (by omega)⟩
theorem mWc_iff (Z : Nat → Nat → Int32) (m n k : Nat) : mWc Z m n k = true ↔ ∃ o : Nat, o < k ∧ ¬ o = m ∧ mHS Z o n = true := by
  induction k with
  | zero => exact ⟨fun h => Bool.noConfusion h, fun ⟨o, ho, _⟩ => absurd ho (Nat.not_lt_zero o)⟩
  | succ k ih =>
    simp only [mWc, Bool.or_eq_true, Bool.and_eq_true, Bool.not_eq_true', decide_eq_false_iff_not]
    rw [ih]
    constructor
    · rintro (⟨o, a, b, c⟩ | ⟨b, c⟩)
      · exact ⟨o, by omega, b, c⟩
      · exact ⟨k, by omega, b, c⟩
    · rintro ⟨o, a, b, c⟩
      rcases Nat.lt_or_ge o k with q | q
      · exact Or.inl ⟨o, q, b, c⟩
      · have e : o = k := by omega
        rw [e] at b c
        exact Or.inr ⟨b, c⟩
theorem mFind_at {P : Nat → Bool} {N p : Nat} (h : ∀ k : Nat, k < p → P k = false) (hp : p < N) (hP : P p = true) : mFind P N 0 = nI p := by
  have h1 : ∀ j : Nat, j ≤ p → mFind P N 0 = mFind P (N - j) j := by
    intro j
    induction j with
    | zero => intro _; rfl
    | succ j ih =>
      intro hj
      rw [ih (by omega)]
      exact mFind_n (by omega) (h j (by omega))
  rw [h1 p (Nat.le_refl p)]
  exact mFind_y hp hP
theorem mFind_no {P : Nat → Bool} {N : Nat} (h : ∀ k : Nat, k < N → P k = false) : mFind P N 0 = -1 := by
  have h1 : ∀ j : Nat, j ≤ N → mFind P N 0 = mFind P (N - j) j := by
    intro j
    induction j with
    | zero => intro _; rfl
    | succ j ih =>
      intro hj
      rw [ih (by omega)]
      exact mFind_n (by omega) (h j (by omega))
  rw [h1 N (Nat.le_refl N), Nat.sub_self]
  rfl
/-- the tune that both have read -/
def TT (Z U : Nat → Nat → Int32) (nt : Nat) : Prop := Z 0 13 = nI nt ∧ nt ≤ 9 ∧ (∀ j : Nat, j < 8 → j < nt → U 1 j = Z 13 j) ∧ tGd nt (Z 13)
theorem tu_all : ∀ n : Fin 10, pWi (nI n.val) (nI 2) (nI 8) = decide (2 ≤ n.val ∧ n.val ≤ 8) := by decide +kernel
theorem TT.tu {Z U : Nat → Nat → Int32} {nt : Nat} (hT : TT Z U nt) : mTu Z = decide (2 ≤ nt ∧ nt ≤ 8) := by
  unfold mTu
  rw [hT.1]
  exact tu_all ⟨nt, by have := hT.2.1; omega⟩
theorem tS_v {B : Nat} {S : Nat → Nat → Int32} (hI : SI B S) {m k : Nat} (hm : m < 20) (hk : k < tlF S m) : (S 7 (m * 8 + k) = nI (nOf (S 7 (m * 8 + k))) ∧ nOf (S 7 (m * 8 + k)) < 7) ∧ (S 7 (m * 8) = nI (nOf (S 7 (m * 8))) ∧ nOf (S 7 (m * 8)) < 7) ∧ tS S m k = (nOf (S 7 (m * 8 + k)) + 7 - nOf (S 7 (m * 8))) % 7 := by
  have h := (hI.2.2.2.2.2.2.1 m hm).2.2
  have a := h k hk
  have b := h 0 (show 0 < tlF S m by omega)
  have b : S 7 (m * 8) = nI (nOf (S 7 (m * 8))) ∧ nOf (S 7 (m * 8)) < 7 := b
  exact ⟨a, b, (d7 a b).1⟩
theorem ln_eq {B : Nat} {S Z : Nat → Nat → Int32} (hR : RS S (Z 2)) (hI : SI B S) {m : Nat} (hm : m < 20) : Z 2 (47 + 11 * m) = nI (tlF S m) ∧ tlF S m ≤ 8 ∧ S 6 m = nI (tlF S m) := by
  have h1 := (hR.2.2.1 m hm).1
  have h2 := (hI.2.2.2.2.2.2.1 m hm).1
  exact ⟨h1.symm.trans h2.1, h2.2.1, h2.1⟩
theorem sh_v {B : Nat} {S Z : Nat → Nat → Int32} (hR : RS S (Z 2)) (hI : SI B S) {m k : Nat} (hm : m < 20) (hk : k < tlF S m) : mSh Z m k = nI (tS S m k) := by
  have a := tS_v hI hm hk
  have d := hR.2.2.2.1 m k hm hk
  have d0 : S 7 (m * 8) = Z 2 (47 + 11 * m + 3) := hR.2.2.2.1 m 0 hm (show 0 < tlF S m by omega)
  unfold mSh
  rw [← d, ← d0, a.2.2]
  exact (d7 a.1 a.2.1).2.1
theorem shT_v {Z U : Nat → Nat → Int32} {nt k : Nat} (hT : TT Z U nt) (h8 : nt ≤ 8) (hk : k < nt) : mShT Z k = nI (nSh (U 1) k) ∧ nSh (U 1) k = (nOf (Z 13 k) + 7 - nOf (Z 13 0)) % 7 := by
  obtain ⟨-, -, t3, t4⟩ := hT
  have a := t4 k (by omega) hk
  have b := t4 0 (by omega) (by omega)
  have d := d7 a b
  have e : nSh (U 1) k = (nOf (Z 13 k) + 7 - nOf (Z 13 0)) % 7 := by
    unfold nSh
    rw [t3 k (by omega) hk, t3 0 (by omega) (by omega)]
    exact d.1
  refine ⟨?_, e⟩
  rw [e]
  exact d.2.1
theorem nSh_dg (f : Nat → Int32) : dg (nSh f) := fun i => (fm7 _).2
theorem HS_iff {B : Nat} {S Z U : Nat → Nat → Int32} {nt : Nat} (hR : RS S (Z 2)) (hI : SI B S) (hT : TT Z U nt) (h8 : nt ≤ 8) {m : Nat} (hm : m < 20) : mHS Z m nt = true ↔ tlF S m = nt ∧ ∀ i : Nat, i < nt → nSh (U 1) i = tS S m i := by
  unfold mHS
  rw [mHSl_iff, (ln_eq hR hI hm).1]
  have hl := (ln_eq hR hI hm).2.1
  have key : ∀ i : Nat, i < nt → i < tlF S m → (mSh Z m i = mShT Z i ↔ nSh (U 1) i = tS S m i) := by
    intro i hi hi2
    rw [sh_v hR hI hm hi2, (shT_v hT h8 hi).1]
    have h1 := tS_lt S m i
    have h2 := nSh_dg (U 1) i
    constructor
    · intro q
      exact (nI_inj (by omega) (by omega) q).symm
    · intro q
      rw [q]
  constructor
  · rintro ⟨a, b⟩
    have e : tlF S m = nt := nI_inj (by omega) (by omega) a
    exact ⟨e, fun i hi => (key i hi (by omega)).mp (b i hi)⟩
  · rintro ⟨a, b⟩
    exact ⟨by rw [a], fun i hi => (key i hi (by omega)).mpr (b i hi)⟩
theorem sh_uniq {B : Nat} {S : Nat → Nat → Int32} (hI : SI B S) {m o : Nat} (hm : m < 20) (ho : o < 20) (h : tlF S m = tlF S o) (h0 : 0 < tlF S m) (hs : ∀ i : Nat, i < tlF S m → tS S m i = tS S o i) : m = o := by
  rcases Nat.decEq m o with q | q
  · exfalso
    refine hI.2.2.2.2.2.2.2.2 m o hm ho q h0 ⟨h, fun k hk => ?_⟩
    have h1 := (tS_v hI hm (k := k) hk).2.2
    have h2 := (tS_v hI ho (k := k) (by rw [← h]; exact hk)).2.2
    rw [← h1, ← h2]
    exact hs k hk
  · exact q
theorem shp_cases {B : Nat} {S Z U : Nat → Nat → Int32} {nt : Nat} (hR : RS S (Z 2)) (hI : SI B S) (hT : TT Z U nt) (h2 : 2 ≤ nt) (h8 : nt ≤ 8) :
    (∃ o : Nat, o < 20 ∧ mHS Z o nt = true ∧ (∀ k : Nat, k < 20 → mHS Z k nt = true → k = o) ∧ mShp S (tlF S) U nt = nI o ∧ tlF S o = nt ∧ ∀ i : Nat, i < nt → nSh (U 1) i = tS S o i) ∨ ((∀ k : Nat, k < 20 → mHS Z k nt = false) ∧ mShp S (tlF S) U nt = -1) := by
  have hl : ∀ i : Nat, i < 20 → tlF S i ≤ 8 := fun i hi => (ln_eq hR hI hi).2.1
  rcases tG_shape S (tlF S) hl (nSh (U 1)) (nSh_dg _) (n := nt) (by omega) with ⟨o, o1, o2, o3, o4⟩ | ⟨n1, n2⟩
  · refine Or.inl ⟨o, o1, (HS_iff hR hI hT h8 o1).mpr ⟨o2, o3⟩, fun k hk hs => ?_, o4, o2, o3⟩
    obtain ⟨a, b⟩ := (HS_iff hR hI hT h8 hk).mp hs
    exact sh_uniq hI hk o1 (a.trans o2.symm) (by omega) (fun i hi => (b i (by omega)).symm.trans (o3 i (by omega)))
  · refine Or.inr ⟨fun k hk => ?_, n2⟩
    cases hq : mHS Z k nt with
    | false => rfl
    | true =>
      obtain ⟨a, b⟩ := (HS_iff hR hI hT h8 hk).mp hq
      obtain ⟨i, i1, i2⟩ := n1 k hk a
      exact absurd (b i i1) i2
theorem nm_or {o : Nat} (ho : o < 20) : ¬ nI o = -1 := nI_ne1 (by omega)
/-- why a tune can't be taught -/
theorem pRA_eq {B : Nat} {S Z U : Nat → Nat → Int32} {nt m : Nat} (hR : RS S (Z 2)) (hI : SI B S) (hT : TT Z U nt) (hm : m < 20) : pRA S (tlF S) U nt m = mWT Z m nt := by
  unfold pRA mWT
  rw [hT.tu]
  by_cases h : 2 ≤ nt ∧ nt ≤ 8
  · rw [if_pos (decide_eq_true h), if_pos (decide_eq_true h)]
    rcases shp_cases hR hI hT h.1 h.2 with ⟨o, o1, o2, o3, o4, -⟩ | ⟨n1, n2⟩
    · rw [o4]
      by_cases e : m = o
      · have hc : ¬ mWc Z m nt 20 = true := by
          rw [mWc_iff]
          rintro ⟨k, k1, k2, k3⟩
          exact k2 ((o3 k k1 k3).trans e.symm)
        rw [if_pos (Or.inr (by rw [e])), if_neg hc]
      · have hc : mWc Z m nt 20 = true := (mWc_iff Z m nt 20).mpr ⟨o, o1, fun q => e q.symm, o2⟩
        rw [if_neg (fun q => q.elim (nm_or o1) (fun z => e (nI_inj (by omega) (by omega) z).symm)), if_pos hc]
    · have hc : ¬ mWc Z m nt 20 = true := by
        rw [mWc_iff]
        rintro ⟨k, k1, k2, k3⟩
        rw [n1 k k1] at k3
        cases k3
      rw [n2, if_pos (Or.inl rfl), if_neg hc]
  · rw [if_neg (by rw [decide_eq_false h]; decide), if_neg (by rw [decide_eq_false h]; decide)]
theorem fst_v {B : Nat} {S Z U : Nat → Nat → Int32} {nt o : Nat} (hR : RS S (Z 2)) (hI : SI B S) (hT : TT Z U nt) (h2 : 2 ≤ nt) (ho : o < 20) (hl : tlF S o = nt) : Z 2 (47 + 11 * o + 3) = S 7 (o * 8) ∧ (S 7 (o * 8) = nI (nOf (S 7 (o * 8))) ∧ nOf (S 7 (o * 8)) < 7) ∧ U 1 0 = Z 13 0 ∧ (Z 13 0 = nI (nOf (Z 13 0)) ∧ nOf (Z 13 0) < 7) ∧ pFM (U 1 0 - S 7 (o * 8)) (nI 7) = nI ((nOf (Z 13 0) + 7 - nOf (S 7 (o * 8))) % 7) := by
  have d0 : S 7 (o * 8) = Z 2 (47 + 11 * o + 3) := hR.2.2.2.1 o 0 ho (show 0 < tlF S o by omega)
  have a := (tS_v hI ho (k := 0) (by omega)).2.1
  obtain ⟨-, -, t3, t4⟩ := hT
  have e := t3 0 (by omega) (by omega)
  have b := t4 0 (by omega) (by omega)
  refine ⟨d0.symm, a, e, b, ?_⟩
  rw [(fm7 _).1, e, (d7 b a).1]
theorem nI_v {y : Nat} (hy : y < 7) : nI y = nI (nOf (nI y)) ∧ nOf (nI y) < 7 := by rw [nOf_n (by omega)]; exact ⟨rfl, hy⟩
theorem deP_o {B : Nat} {S Z U : Nat → Nat → Int32} {nt o y : Nat} (hR : RS S (Z 2)) (hI : SI B S) (hT : TT Z U nt) (h2 : 2 ≤ nt) (h8 : nt ≤ 8) (ho : o < 20) (hl : tlF S o = nt) (hs : mHS Z o nt = true) (hy : y < 7) : mDeP Z nt (nI y) o = decide ((nOf (Z 13 0) + 7 - nOf (S 7 (o * 8))) % 7 = y) := by
  obtain ⟨f1, f2, f3, f4, f5⟩ := fst_v hR hI hT h2 ho hl
  have hv := nI_v hy
  have d := (d7 f4 hv).2.1
  rw [nOf_n (by omega)] at d
  unfold mDeP
  rw [hT.tu, decide_eq_true ⟨h2, h8⟩, hs, f1, d, Bool.true_and, Bool.true_and, f2.1]
  have hiff : nI (nOf (S 7 (o * 8))) = nI ((nOf (Z 13 0) + 7 - y) % 7) ↔ (nOf (Z 13 0) + 7 - nOf (nI (nOf (S 7 (o * 8))))) % 7 = y := by
    rw [nI_eq (by omega) (by omega), nOf_n (by omega)]
    omega
  exact decide_eq_decide.mpr hiff
theorem mDe_1 {B : Nat} {S Z U : Nat → Nat → Int32} {nt o y : Nat} (hR : RS S (Z 2)) (hI : SI B S) (hT : TT Z U nt) (h2 : 2 ≤ nt) (h8 : nt ≤ 8) (ho : o < 20) (hl : tlF S o = nt) (hs : mHS Z o nt = true) (hu : ∀ k : Nat, k < 20 → mHS Z k nt = true → k = o) (hy : y < 7) : mDe Z nt (nI y) = if (nOf (Z 13 0) + 7 - nOf (S 7 (o * 8))) % 7 = y then nI o else -1 := by
  have hp := deP_o hR hI hT h2 h8 ho hl hs hy
  have hno : ∀ k : Nat, k < 20 → ¬ k = o → mDeP Z nt (nI y) k = false := by
    intro k hk hne
    unfold mDeP
    cases hq : mHS Z k nt with
    | false => rw [Bool.false_and, Bool.and_false]
    | true => exact absurd (hu k hk hq) hne
  unfold mDe
  by_cases q : (nOf (Z 13 0) + 7 - nOf (S 7 (o * 8))) % 7 = y
  · rw [if_pos q]
    exact mFind_at (fun k hk => hno k (by omega) (by omega)) ho (hp.trans (decide_eq_true q))
  · rw [if_neg q]
    refine mFind_no (fun k hk => ?_)
    rcases Nat.decEq k o with z | z
    · exact hno k hk z
    · rw [z]; exact hp.trans (decide_eq_false q)
theorem mDe_2 {Z U : Nat → Nat → Int32} {nt : Nat} {y : Int32} (hT : TT Z U nt) (h : ¬ (2 ≤ nt ∧ nt ≤ 8) ∨ ∀ k : Nat, k < 20 → mHS Z k nt = false) : mDe Z nt y = -1 := by
  refine mFind_no (fun k hk => ?_)
  unfold mDeP
  rcases h with h | h
  · rw [hT.tu, decide_eq_false h, Bool.false_and]
  · rw [h k hk, Bool.false_and, Bool.and_false]
theorem pMSy {S U : Nat → Nat → Int32} {tl : Nat → Nat} {nt : Nat} (h : 2 ≤ nt ∧ nt ≤ 8) : pMS S tl U nt = mShp S tl U nt := if_pos (decide_eq_true h)
theorem pMSn {S U : Nat → Nat → Int32} {tl : Nat → Nat} {nt : Nat} (h : ¬ (2 ≤ nt ∧ nt ≤ 8)) : pMS S tl U nt = -1 := if_neg (by rw [decide_eq_false h]; decide)
theorem pDT_eq {B : Nat} {S Z U : Nat → Nat → Int32} {nt y : Nat} (hR : RS S (Z 2)) (hI : SI B S) (hT : TT Z U nt) (hy : y < 7) : pDT S (tlF S) U nt (nI y) = mDe Z nt (nI y) := by
  by_cases h : 2 ≤ nt ∧ nt ≤ 8
  · rcases shp_cases hR hI hT h.1 h.2 with ⟨o, o1, o2, o3, o4, o5, -⟩ | ⟨n1, n2⟩
    · rw [mDe_1 hR hI hT h.1 h.2 o1 o5 o2 o3 hy]
      have hp : pMS S (tlF S) U nt = nI o := (pMSy h).trans o4
      have f5 := (fst_v hR hI hT h.1 o1 o5).2.2.2.2
      unfold pDT
      rw [hp, if_neg (nm_or o1), nOf_n (by omega), f5]
      have hiff : nI ((nOf (Z 13 0) + 7 - nOf (S 7 (o * 8))) % 7) = nI y ↔ (nOf (Z 13 0) + 7 - nOf (S 7 (o * 8))) % 7 = y := nI_eq (by omega) (by omega)
      by_cases q : (nOf (Z 13 0) + 7 - nOf (S 7 (o * 8))) % 7 = y
      · rw [if_pos (hiff.mpr q), if_pos q]
      · rw [if_neg (fun z => q (hiff.mp z)), if_neg q]
    · rw [mDe_2 hT (Or.inr n1)]
      exact if_pos ((pMSy h).trans n2)
  · rw [mDe_2 hT (Or.inl h)]
    exact if_pos (pMSn h)
theorem pKO_eq {B : Nat} {S Z U : Nat → Nat → Int32} {nt : Nat} (hR : RS S (Z 2)) (hI : SI B S) (hT : TT Z U nt) : pKO S (tlF S) U nt = mFk Z nt := by
  by_cases h : 2 ≤ nt ∧ nt ≤ 8
  · rcases shp_cases hR hI hT h.1 h.2 with ⟨o, o1, o2, o3, o4, o5, -⟩ | ⟨n1, n2⟩
    · have hp : pMS S (tlF S) U nt = nI o := (pMSy h).trans o4
      have f5 := (fst_v hR hI hT h.1 o1 o5).2.2.2.2
      unfold pKO
      rw [hp, if_neg (nm_or o1), nOf_n (by omega), f5]
      have h7 : (nOf (Z 13 0) + 7 - nOf (S 7 (o * 8))) % 7 < 7 := Nat.mod_lt _ (by decide)
      have hd : ∀ k : Nat, k < 7 → mDe Z nt (nI k) = if (nOf (Z 13 0) + 7 - nOf (S 7 (o * 8))) % 7 = k then nI o else -1 := fun k hk => mDe_1 hR hI hT h.1 h.2 o1 o5 o2 o3 hk
      generalize (nOf (Z 13 0) + 7 - nOf (S 7 (o * 8))) % 7 = v at h7 hd ⊢
      refine (mFind_at (fun k hk => ?_) h7 ?_).symm
      · unfold mFkP
        rw [hd k (by omega), if_neg (by omega)]
        decide
      · unfold mFkP
        rw [hd v h7, if_pos rfl, decide_eq_false (nm_or o1)]
        rfl
    · have e : pKO S (tlF S) U nt = -1 := if_pos ((pMSy h).trans n2)
      rw [e]
      refine (mFind_no (fun k hk => ?_)).symm
      unfold mFkP
      rw [mDe_2 hT (Or.inr n1)]
      decide
  · have e : pKO S (tlF S) U nt = -1 := if_pos (pMSn h)
    rw [e]
    refine (mFind_no (fun k hk => ?_)).symm
    unfold mFkP
    rw [mDe_2 hT (Or.inl h)]
    decide
theorem iw_iff {B : Nat} {S Z U : Nat → Nat → Int32} {nt m y : Nat} (hR : RS S (Z 2)) (hI : SI B S) (hT : TT Z U nt) (h2 : 2 ≤ nt) (h8 : nt ≤ 8) (hm : m < 20) (hy : y < 7) : pIW S (tlF S) U nt m (nI y) = true ↔ mHS Z m nt = true ∧ (nOf (Z 13 0) + 7 - nOf (S 7 (m * 8))) % 7 = y := by
  rw [HS_iff hR hI hT h8 hm]
  unfold pIW
  rw [decide_eq_true_eq]
  have hv := nI_v hy
  have key : tlF S m = nt → ∀ j : Nat, j < nt → (U 1 j = iRem (S 7 (m * 8 + j) + nI y) (nI 7) ↔ nOf (Z 13 j) = (nOf (S 7 (m * 8 + j)) + y) % 7) := by
    intro hl j hj
    have a := (tS_v hI hm (k := j) (by omega)).1
    have b := hT.2.2.2 j (by omega) hj
    have d := (d7 a hv).2.2
    rw [nOf_n (by omega)] at d
    rw [hT.2.2.1 j (by omega) hj, d]
    constructor
    · intro q
      rw [b.1] at q
      exact nI_inj (by omega) (by omega) q
    · intro q
      rw [b.1, q]
  constructor
  · rintro ⟨a, b⟩
    have k0 := (key a.symm 0 (by omega)).mp (b 0 (by omega))
    have k0 : nOf (Z 13 0) = (nOf (S 7 (m * 8)) + y) % 7 := k0
    have v0 := (tS_v hI hm (k := 0) (by omega)).2.1.2
    refine ⟨⟨a.symm, fun i hi => ?_⟩, by omega⟩
    have ki := (key a.symm i hi).mp (b i hi)
    have vi := (tS_v hI hm (k := i) (by omega)).1.2
    rw [(shT_v hT h8 hi).2, (tS_v hI hm (k := i) (by omega)).2.2]
    omega
  · rintro ⟨⟨a, b⟩, c⟩
    have v0 := (tS_v hI hm (k := 0) (by omega)).2.1.2
    have w0 := (hT.2.2.2 0 (by omega) (by omega)).2
    refine ⟨a.symm, fun j hj => (key a j hj).mpr ?_⟩
    have vj := (tS_v hI hm (k := j) (by omega)).1.2
    have wj := (hT.2.2.2 j (by omega) hj).2
    have hb := b j hj
    rw [(shT_v hT h8 hj).2, (tS_v hI hm (k := j) (by omega)).2.2] at hb
    omega
theorem pDM_eq {B : Nat} {S Z U : Nat → Nat → Int32} {nt y : Nat} (hR : RS S (Z 2)) (hI : SI B S) (hT : TT Z U nt) (hy : y < 7) : pDM S (tlF S) U nt (nI y) = mDe Z nt (nI y) := by
  by_cases h : 2 ≤ nt ∧ nt ≤ 8
  · have hi : ∀ k : Nat, k < 20 → (pIW S (tlF S) U nt k (nI y) = true ↔ mHS Z k nt = true ∧ (nOf (Z 13 0) + 7 - nOf (S 7 (k * 8))) % 7 = y) := fun k hk => iw_iff hR hI hT h.1 h.2 hk hy
    rcases shp_cases hR hI hT h.1 h.2 with ⟨o, o1, o2, o3, o4, o5, -⟩ | ⟨n1, n2⟩
    · rw [mDe_1 hR hI hT h.1 h.2 o1 o5 o2 o3 hy]
      have hno : ∀ k : Nat, k < 20 → ¬ k = o → pIW S (tlF S) U nt k (nI y) = false := by
        intro k hk hne
        cases hq : pIW S (tlF S) U nt k (nI y) with
        | false => rfl
        | true => exact absurd (o3 k hk ((hi k hk).mp hq).1) hne
      by_cases q : (nOf (Z 13 0) + 7 - nOf (S 7 (o * 8))) % 7 = y
      · rw [if_pos q]
        exact (pDM_2 S (tlF S) U nt (nI y) (decide_eq_true h) o1 (nFind_at (fun k hk => hno k (by omega) (by omega)) o1 ((hi o o1).mpr ⟨o2, q⟩))).symm
      · rw [if_neg q]
        refine (pDM_3 S (tlF S) U nt (nI y) (decide_eq_true h) (nFind_no (fun k hk => ?_))).symm
        rcases Nat.decEq k o with z | z
        · exact hno k hk z
        · rw [z]
          cases hq : pIW S (tlF S) U nt o (nI y) with
          | false => rfl
          | true => exact absurd ((hi o o1).mp hq).2 q
    · rw [mDe_2 hT (Or.inr n1)]
      refine (pDM_3 S (tlF S) U nt (nI y) (decide_eq_true h) (nFind_no (fun k hk => ?_))).symm
      cases hq : pIW S (tlF S) U nt k (nI y) with
      | false => rfl
      | true =>
        have := ((hi k hk).mp hq).1
        rw [n1 k hk] at this
        cases this
  · rw [mDe_2 hT (Or.inl h)]
    exact (pDM_1 S (tlF S) U nt (nI y) (decide_eq_false h)).symm
/-- the nodes of the tree -/
theorem nd_eq {B : Nat} {S Z : Nat → Nat → Int32} (hR : RS S (Z 2)) (hI : SI B S) : (tG S (tlF S) 20).2.2 = mNd Z (tlF S) 20 := by
  refine tG_nodes S (tlF S) Z (fun i hi => (ln_eq hR hI hi).2.1) (fun m n hm hn hl => ?_) 20 (Nat.le_refl _)
  have hlm := (ln_eq hR hI hm).2.1
  have key : ∀ o i : Nat, o < m → i < n → n ≤ tlF S o → (mSh Z m i = mSh Z o i ↔ tS S m i = tS S o i) := by
    intro o i ho hi hlo
    rw [sh_v hR hI hm (show i < tlF S m by omega), sh_v hR hI (show o < 20 by omega) (show i < tlF S o by omega)]
    have h1 := tS_lt S m i
    have h2 := tS_lt S o i
    exact nI_eq (by omega) (by omega)
  rw [mNw_iff]
  constructor
  · intro q o ho hlo
    rcases ex_diff (tS S m) (tS S o) n with z | z
    · exfalso
      have h1 : mBA Z m o n n = true := (mBA_iff Z m o n n).mpr ⟨by rw [(ln_eq hR hI (show o < 20 by omega)).1]; exact nI_nlt hlo (by have := (ln_eq hR hI (show o < 20 by omega)).2.1; omega), fun i hi => (key o i ho hi hlo).mpr (z i hi)⟩
      rw [q o ho] at h1
      cases h1
    · exact z
  · intro q o ho
    cases hb : mBA Z m o n n with
    | false => rfl
    | true =>
      exfalso
      obtain ⟨b1, b2⟩ := (mBA_iff Z m o n n).mp hb
      have hl8 := (ln_eq hR hI (show o < 20 by omega)).2.1
      rw [(ln_eq hR hI (show o < 20 by omega)).1, nI_ltI (by omega) (by omega)] at b1
      obtain ⟨i, i1, i2⟩ := q o ho (by omega)
      exact i2 ((key o i ho i1 (by omega)).mp (b2 i i1))

