/-! what the law types: the tune as a number beside the text that WhistleTunes reads -/
theorem pk_or {x y m : Nat} (hx : x < 2 ^ (3 * m)) : x ||| y * 2 ^ (3 * m) = x + y * 2 ^ (3 * m) := by
  rw [Nat.or_comm, Nat.mul_comm, ← Nat.two_pow_add_eq_or_of_lt hx, Nat.add_comm]
theorem pk_pw {m j : Nat} (h : j < m) : 2 ^ (3 * m) = 2 ^ (3 * j) * (8 * 2 ^ (3 * (m - j - 1))) := by
  rw [show (8 : Nat) = 2 ^ 3 from rfl, ← Nat.pow_add, ← Nat.pow_add]
  exact congrArg (fun z => 2 ^ z) (by omega)
theorem pk_lo {x y m j : Nat} (h : j < m) : (x + y * 2 ^ (3 * m)) / 2 ^ (3 * j) % 8 = x / 2 ^ (3 * j) % 8 := by
  have e : x + y * 2 ^ (3 * m) = x + 2 ^ (3 * j) * (8 * (2 ^ (3 * (m - j - 1)) * y)) := by
    rw [pk_pw h, Nat.mul_comm y, Nat.mul_assoc, Nat.mul_assoc]
  rw [e, Nat.add_mul_div_left _ _ (Nat.two_pow_pos _), Nat.add_mul_mod_self_left]
theorem pk_hi {x y m : Nat} (hx : x < 2 ^ (3 * m)) (hy : y < 8) : (x + y * 2 ^ (3 * m)) / 2 ^ (3 * m) % 8 = y := by
  rw [Nat.add_mul_div_right _ _ (Nat.two_pow_pos _), Nat.div_eq_of_lt hx, Nat.zero_add, Nat.mod_eq_of_lt hy]
theorem uNt_low {tu j : Nat} (h : j < 8) : uNt tu j = tu % 16777216 / 2 ^ (3 * j) % 8 := by
  have e : tu = tu % 16777216 + tu / 16777216 * 2 ^ (3 * 8) := by
    have h1 := Nat.mod_add_div tu 16777216
    rw [show 2 ^ (3 * 8) = 16777216 from rfl]
    omega
  unfold uNt
  conv => lhs; rw [e]
  exact pk_lo h
/-- the number of a tune: m notes, those of t -/
def PK (tu m : Nat) (t : Nat → Int32) : Prop := tu < 167772160 ∧ uMy tu = m ∧ (m ≤ 8 → tu % 16777216 < 2 ^ (3 * m) ∧ ∀ j : Nat, j < m → t j = nI (uNt tu j) ∧ uNt tu j < 7)
theorem PK.my {tu m : Nat} {t : Nat → Int32} (h : PK tu m t) : m ≤ 9 := h.2.1 ▸ uMy_9 h.1
theorem PK.zero (t : Nat → Int32) : PK 0 0 t := ⟨by decide, rfl, fun _ => ⟨by decide, fun j hj => absurd hj (Nat.not_lt_zero j)⟩⟩
theorem uWi_9 {tu nt : Nat} (h : uMy tu = 9) : uWi tu nt = tu := if_pos (by omega)
theorem uWi_m {tu nt m : Nat} (h : uMy tu = m) (h8 : m < 8) (hx : tu % 16777216 < 2 ^ (3 * m)) : uWi tu nt = (tu % 16777216 + nt * 2 ^ (3 * m)) + (m + 1) * 16777216 := by
  unfold uWi
  rw [h, if_neg (by omega), if_neg (by omega), pk_or hx]
theorem pk_b {x y m : Nat} (hx : x < 2 ^ (3 * m)) (hy : y < 8) : x + y * 2 ^ (3 * m) < 2 ^ (3 * (m + 1)) := by
  rw [show 3 * (m + 1) = 3 * m + 3 from by omega, Nat.pow_add]
  have h1 : y * 2 ^ (3 * m) ≤ 7 * 2 ^ (3 * m) := Nat.mul_le_mul_right _ (by omega)
  rw [show (2 : Nat) ^ 3 = 8 from rfl]
  omega
theorem PK.add {tu m nt : Nat} {t : Nat → Int32} (h : PK tu m t) (hn : nt < 7) : PK (uWi tu nt) (mAdN m) (mAdT t m (nI nt)) := by
  obtain ⟨h1, h2, h3⟩ := h
  have h9 := uMy_9 h1
  refine ⟨uWi_lt h1 (by omega), ?_⟩
  rcases (show m = 9 ∨ m = 8 ∨ m < 8 by omega) with h4 | h4 | h4
  · rw [uWi_9 (by omega)]
    have e : mAdN m = 9 := by unfold mAdN; rw [if_pos (by omega)]; exact h4
    rw [e]
    exact ⟨by omega, fun q => absurd q (by decide)⟩
  · have e : mAdN m = 9 := by unfold mAdN; rw [if_neg (by omega)]; omega
    have e2 : uWi tu nt = 150994944 := by unfold uWi; rw [if_neg (by omega), if_pos (by omega)]
    rw [e, e2]
    exact ⟨by decide, fun q => absurd q (by decide)⟩
  · obtain ⟨h5, h6⟩ := h3 (by omega)
    have e : mAdN m = m + 1 := by unfold mAdN; rw [if_neg (by omega)]
    have hb := pk_b (y := nt) h5 (by omega)
    have hb2 : 2 ^ (3 * (m + 1)) ≤ 16777216 := Nat.le_trans (Nat.pow_le_pow_right (by decide) (show 3 * (m + 1) ≤ 24 by omega)) (by decide)
    have hu := uWi_m (nt := nt) h2 h4 h5
    have hlow : uWi tu nt % 16777216 = tu % 16777216 + nt * 2 ^ (3 * m) := by rw [hu]; omega
    rw [e]
    refine ⟨by rw [hu]; unfold uMy; omega, fun _ => ⟨by rw [hlow]; exact hb, fun j hj => ?_⟩⟩
    rw [uNt_low (tu := uWi tu nt) (by omega), hlow]
    unfold mAdT
    rw [if_pos h4]
    by_cases hj2 : j = m
    · rw [hj2, upd_at, pk_hi h5 (by omega)]
      exact ⟨rfl, hn⟩
    · rw [upd_no hj2, pk_lo (by omega), ← uNt_low (by omega)]
      exact h6 j (by omega)
theorem mAdT_no {t : Nat → Int32} {n j : Nat} {x : Int32} (h : j ≠ n) : mAdT t n x j = t j := by
  unfold mAdT
  split
  · exact upd_no h
  · rfl
theorem mAdT_at {t : Nat → Int32} {n : Nat} {x : Int32} (h : n < 8) : mAdT t n x n = x := by
  unfold mAdT
  rw [if_pos h]
  exact upd_at
theorem uW2_9 {tu a b n : Nat} (h : uMy (uW2 tu a b n) = 9) (k : Nat) : uW2 tu a b (n + k) = uW2 tu a b n := by
  induction k with
  | zero => rfl
  | succ k ih =>
    show uWi (uW2 tu a b (n + k)) _ = _
    rw [ih, uWi_9 h]
/-- a group: two notes, then those that repeat them -/
theorem PK.rep {tu m a b : Nat} {t : Nat → Int32} (h : PK tu m t) (ha : a < 7) (hb : b < 7) (T : Nat) (hT : 1 ≤ T) :
    PK (uW2 tu a b (2 * T)) (rpS m (mAdT (mAdT t m (nI a)) (mAdN m) (nI b)) (mAdN (mAdN m)) ((mAdN (mAdN m) - m) * (T - 1))).2 (rpS m (mAdT (mAdT t m (nI a)) (mAdN m) (nI b)) (mAdN (mAdN m)) ((mAdN (mAdN m) - m) * (T - 1))).1 := by
  have h9 := h.my
  have h2 := (h.add ha).add hb
  have e2 : uW2 tu a b 2 = uWi (uWi tu a) b := rfl
  rw [← e2] at h2
  generalize ht2 : mAdT (mAdT t m (nI a)) (mAdN m) (nI b) = t2 at h2 ⊢
  rcases Nat.lt_or_ge m 7 with h7 | h7
  · have em : mAdN (mAdN m) = m + 2 := by unfold mAdN; rw [if_neg (show ¬ 8 < m by omega), if_neg (show ¬ 8 < m + 1 by omega)]
    have em1 : mAdN m = m + 1 := by unfold mAdN; rw [if_neg (show ¬ 8 < m by omega)]
    rw [em1] at ht2
    rw [em] at h2 ⊢
    have key : ∀ k : Nat, PK (uW2 tu a b (2 + k)) (rpS m t2 (m + 2) k).2 (rpS m t2 (m + 2) k).1 ∧ ((rpS m t2 (m + 2) k).2 ≤ 8 → (rpS m t2 (m + 2) k).2 = m + 2 + k ∧ ∀ i : Nat, m + i < m + 2 + k → (rpS m t2 (m + 2) k).1 (m + i) = nI (if i % 2 = 0 then a else b)) := by
      intro k
      induction k with
      | zero =>
        refine ⟨h2, fun _ => ⟨rfl, fun i hi => ?_⟩⟩
        show t2 (m + i) = _
        rw [← ht2]
        rcases (show i = 0 ∨ i = 1 by omega) with rfl | rfl
        · rw [mAdT_no (by omega), Nat.add_zero, mAdT_at (by omega)]
          rfl
        · by_cases h8 : m + 1 < 8
          · rw [mAdT_at h8]
            rfl
          · omega
      | succ k ih =>
        obtain ⟨i1, i2⟩ := ih
        rcases Nat.lt_or_ge 8 (rpS m t2 (m + 2) k).2 with h8 | h8
        · have h99 : (rpS m t2 (m + 2) k).2 = 9 := by have := i1.my; omega
          rw [rpS_st h8 (k + 1) (by omega), show 2 + (k + 1) = (2 + k) + 1 from rfl, show uW2 tu a b ((2 + k) + 1) = uWi (uW2 tu a b (2 + k)) (if (2 + k) % 2 = 0 then a else b) from rfl, uWi_9 (i1.2.1.trans h99)]
          exact ⟨i1, fun q => absurd q (by omega)⟩
        · obtain ⟨j1, j2⟩ := i2 h8
          rw [rpS_s h8]
          have ev : (if m + k < 8 then (rpS m t2 (m + 2) k).1 (m + k) else nI 0) = nI (if k % 2 = 0 then a else b) := by
            rw [if_pos (by omega)]
            exact j2 k (by omega)
          rw [ev, show 2 + (k + 1) = (2 + k) + 1 from rfl, show uW2 tu a b ((2 + k) + 1) = uWi (uW2 tu a b (2 + k)) (if (2 + k) % 2 = 0 then a else b) from rfl, show (2 + k) % 2 = k % 2 from by omega]
          refine ⟨i1.add (by split <;> assumption), fun q => ?_⟩
          have q2 : mAdN (rpS m t2 (m + 2) k).2 ≤ 8 := q
          have e8 : (rpS m t2 (m + 2) k).2 < 8 := by
            unfold mAdN at q2
            split at q2 <;> omega
          refine ⟨by show mAdN (rpS m t2 (m + 2) k).2 = _; unfold mAdN; rw [if_neg (by omega)]; omega, fun i hi => ?_⟩
          show mAdT (rpS m t2 (m + 2) k).1 (rpS m t2 (m + 2) k).2 _ (m + i) = _
          by_cases hi2 : i = k + 2
          · rw [hi2, show m + (k + 2) = (rpS m t2 (m + 2) k).2 from by omega, mAdT_at e8, show (k + 2) % 2 = k % 2 from by omega]
          · rw [mAdT_no (by omega)]
            exact j2 i (by omega)
    have h3 := (key (2 * (T - 1))).1
    rw [show m + 2 - m = 2 from by omega, show 2 * T = 2 + 2 * (T - 1) from by omega]
    exact h3
  · have em : mAdN (mAdN m) = 9 := by
      unfold mAdN
      rcases (show m = 7 ∨ m = 8 ∨ m = 9 by omega) with rfl | rfl | rfl <;> rfl
    rw [em] at h2 ⊢
    rw [rpS_st (k := 0) (show 8 < (rpS m t2 9 0).2 from (by decide : (8 : Nat) < 9)) _ (Nat.zero_le _), show 2 * T = 2 + (2 * T - 2) from by omega, uW2_9 h2.2.1]
    exact h2
theorem mAdN_ge (n : Nat) : n ≤ mAdN n := by unfold mAdN; split <;> omega
/-- a text read up to p is that of the tune's number tu -/
def TyT (cd : Nat → Nat) (L : Nat) (f0 g0 : Nat → Int32) (p tu : Nat) : Prop := ∃ (m : Nat) (t o : Nat → Int32) (b : Bool), PK tu m t ∧ tGd m t ∧ TQ cd L 0 4 false f0 g0 p m t 0 o b ∧ (0 < p → b = false)
theorem lix_all : ∀ n : Fin 7, pIx (lLt n.val) = nI n.val := by decide +kernel
theorem lix {n : Nat} (h : n < 7) : pIx (lLt n) = nI n := lix_all ⟨n, h⟩
section TYT
variable {cd : Nat → Nat} {L p tu : Nat} {f0 g0 : Nat → Int32}
theorem TyT.zero : TyT cd L f0 g0 0 0 := ⟨0, fun _ => 0, fun _ => 0, true, PK.zero _, fun j _ hj => absurd hj (Nat.not_lt_zero j), ⟨Nat.le_refl 0, ⟨rfl, rfl, fun j _ hj => absurd hj (Nat.not_lt_zero j), fun j hj => absurd hj (Nat.not_lt_zero j)⟩, rfl, fun i _ hi => absurd hi (Nat.not_lt_zero i)⟩, fun q => absurd q (Nat.lt_irrefl 0)⟩
theorem pAt_c (h : p < L) : pAt cd L p = cd p := if_pos h
theorem TyT.note (h : TyT cd L f0 g0 p tu) (hp : p < L) {n : Nat} (hn : n < 7) (hc : cd p = lLt n) : TyT cd L f0 g0 (p + 1) (uWi tu n) := by
  obtain ⟨m, t, o, b, h1, h2, h3, h4⟩ := h
  have e : pAt cd L p = lLt n := (pAt_c hp).trans hc
  have hb := lLt_b hn
  have h5 := TQ_note h3 (by rw [e]; omega) (by rw [e, lix hn]; exact nI_ne1 (by omega)) h1.my
  rw [e, lix hn] at h5
  exact ⟨_, _, o, false, h1.add hn, tGd_ad h2 (nI_v hn), h5, fun _ => rfl⟩
theorem TyT.group (h : TyT cd L f0 g0 p tu) (hp : p + 4 < L) {a b T : Nat} (ha : a < 7) (hb : b < 7) (hT : 2 ≤ T) (hT3 : T ≤ 3) (h0 : cd p = 40) (h1 : cd (p + 1) = lLt a) (h2 : cd (p + 2) = lLt b) (h3 : cd (p + 3) = 41) (h4 : cd (p + 4) = 48 + T) : TyT cd L f0 g0 (p + 5) (uW2 tu a b (2 * T)) := by
  obtain ⟨m, t, o, b0, k1, k2, k3, k4⟩ := h
  have la := lLt_b ha
  have lb := lLt_b hb
  have q0 := TQ_open k3 ((pAt_c (by omega)).trans h0) (by decide)
  have e1 : pAt cd L (p + 1) = lLt a := (pAt_c (by omega)).trans h1
  have q1 := TQ_note q0 (by rw [e1]; omega) (by rw [e1, lix ha]; exact nI_ne1 (by omega)) k1.my
  rw [e1, lix ha] at q1
  have e2 : pAt cd L (p + 2) = lLt b := (pAt_c (by omega)).trans h2
  have p2 := (k1.add ha)
  have q2 := TQ_note q1 (by rw [e2]; omega) (by rw [e2, lix hb]; exact nI_ne1 (by omega)) p2.my
  rw [e2, lix hb] at q2
  have p3 := p2.add hb
  have hm9 := k1.my
  have eo : nOf (upd o 0 (nI m) (1 - 1)) = m := by
    show nOf (upd o 0 (nI m) 0) = m
    rw [upd_at, nOf_n (by omega)]
  have hle : m ≤ mAdN (mAdN m) := Nat.le_trans (mAdN_ge m) (mAdN_ge _)
  have e4 : pAt cd L (p + 3 + 1) = 48 + T := (pAt_c (by omega)).trans h4
  have q3 := TQ_rep q2 ((pAt_c (by omega)).trans h3) (by decide) p3.my (by rw [eo]; exact hle) (by rw [e4]; exact decide_eq_true (by omega))
  rw [eo, e4, show 48 + T - 48 - 1 = T - 1 from by omega] at q3
  refine ⟨_, _, _, false, k1.rep ha hb T (by omega), (tGd_rp (tGd_ad (tGd_ad k2 (nI_v ha)) (nI_v hb)) _ (fun hk => ?_)).1, q3, fun _ => rfl⟩
  rcases Nat.lt_or_ge m (mAdN (mAdN m)) with hh | hh
  · exact hh
  · rw [show mAdN (mAdN m) - m = 0 from by omega, Nat.zero_mul] at hk
    exact absurd hk (Nat.lt_irrefl 0)
end TYT
/-- what WhistleTunes makes of a whole typed text -/
theorem TyT.fin {cd : Nat → Nat} {L tu : Nat} {U : Nat → Nat → Int32} (h : TyT cd L (U 1) (U 2) L tu) (h0 : 0 < L) :
    bT cd L = true ∧ gEr cd L 4 false = L ∧ ntT cd L U = uMy tu ∧ tGd (uMy tu) (rTu U cd L 1) ∧ (uMy tu ≤ 8 → tu % 16777216 < 2 ^ (3 * uMy tu) ∧ ∀ j : Nat, j < uMy tu → rTu U cd L 1 j = nI (uNt tu j) ∧ uNt tu j < 7) := by
  obtain ⟨m, t, o, b, h1, h2, ⟨h3, ⟨t1, t2, t3, t4⟩, h5, h6⟩, h4⟩ := h
  obtain rfl := h4 h0
  have hs : gS cd L 4 false L = (5, 0) := h5
  have he : gEr cd L 4 false = L := er_L (by rw [hs]; decide)
  have hen : gEn cd L 4 false = L := by unfold gEn; rw [he, if_neg (Nat.lt_irrefl L)]
  have hbt : bT cd L = true := by
    unfold bT
    rw [he, hen, hs]
    exact decide_eq_true ⟨Nat.lt_irrefl L, rfl⟩
  have er : rTu U cd L 1 = (tV cd L 0 (U 1) (U 2) (L - 0)).1 := by
    unfold rTu
    rw [if_pos hbt]
    rfl
  refine ⟨hbt, he, ?_, ?_, ?_⟩
  · rw [h1.2.1]
    exact t1
  · rw [h1.2.1, er]
    intro j hj hjm
    rw [t3 j hj hjm]
    exact h2 j hj hjm
  · rw [h1.2.1]
    intro h8
    refine ⟨(h1.2.2 h8).1, fun j hj => ?_⟩
    rw [er, t3 j (by omega) hj]
    exact (h1.2.2 h8).2 j hj
/-! texts that grow -/
theorem ap_at (X : Nat → Nat → Int32) (n c : Nat) : xAp X n c 1 n = nI c := by
  show upd (X 1) n (nI c) n = nI c
  exact upd_at
theorem ap_no {X : Nat → Nat → Int32} {n c i : Nat} (h : i ≠ n) : xAp X n c 1 i = X 1 i := by
  show upd (X 1) n (nI c) i = X 1 i
  exact upd_no h
/-- codes of a text -/
def cdX (X : Nat → Nat → Int32) (i : Nat) : Nat := nOf (X 1 i)
theorem cdX_at {X : Nat → Nat → Int32} {n c : Nat} (h : c < 128) : cdX (xAp X n c) n = c := by
  unfold cdX
  rw [ap_at, nOf_n (by omega)]
theorem cdX_no {X : Nat → Nat → Int32} {n c i : Nat} (h : i ≠ n) : cdX (xAp X n c) i = cdX X i := by
  unfold cdX
  rw [ap_no h]
/-- a typed text: its n codes are signs, and whatever text begins with it reads the tune tu up to n -/
def TyG (z : TyS) : Prop := (∀ i : Nat, i < z.2.1 → z.1 1 i = nI (cdX z.1 i) ∧ cdX z.1 i < 127) ∧ ∀ (cd : Nat → Nat) (L : Nat) (f0 g0 : Nat → Int32), z.2.1 ≤ L → (∀ i : Nat, i < z.2.1 → cd i = cdX z.1 i) → TyT cd L f0 g0 z.2.1 z.2.2
theorem TyG.zero (X : Nat → Nat → Int32) : TyG (X, 0, 0) := ⟨fun i hi => absurd hi (Nat.not_lt_zero i), fun _ _ _ _ _ _ => TyT.zero⟩
theorem TyG.cod {X : Nat → Nat → Int32} {n c : Nat} (hc : c < 127) (h : ∀ i : Nat, i < n → X 1 i = nI (cdX X i) ∧ cdX X i < 127) : ∀ i : Nat, i < n + 1 → xAp X n c 1 i = nI (cdX (xAp X n c) i) ∧ cdX (xAp X n c) i < 127 := by
  intro i hi
  by_cases h2 : i = n
  · rw [h2, cdX_at (by omega), ap_at]
    exact ⟨rfl, hc⟩
  · rw [cdX_no h2, ap_no h2]
    exact h i (by omega)
theorem TyG.note {X : Nat → Nat → Int32} {n tu a : Nat} (h : TyG (X, n, tu)) (ha : a < 7) : TyG (xAp X n (lLt a), n + 1, uWi tu a) := by
  have hb := lLt_b ha
  refine ⟨TyG.cod (by omega) h.1, fun cd L f0 g0 hL hc => ?_⟩
  have hL : n + 1 ≤ L := hL
  have hc : ∀ i : Nat, i < n + 1 → cd i = cdX (xAp X n (lLt a)) i := hc
  refine (h.2 cd L f0 g0 (show n ≤ L by omega) (fun i hi => ?_)).note (by show n < L; omega) ha ?_
  · have hi : i < n := hi
    rw [hc i (by omega), cdX_no (by omega)]
  · show cd n = lLt a
    rw [hc n (by omega), cdX_at (by omega)]
theorem TyG.group {X : Nat → Nat → Int32} {n tu a b T : Nat} (h : TyG (X, n, tu)) (ha : a < 7) (hb : b < 7) (hT : 2 ≤ T) (hT3 : T ≤ 3) : TyG (xAp (xAp (xAp (xAp (xAp X n 40) (n + 1) (lLt a)) (n + 2) (lLt b)) (n + 3) 41) (n + 4) (48 + T), n + 5, uW2 tu a b (2 * T)) := by
  have la := lLt_b ha
  have lb := lLt_b hb
  refine ⟨TyG.cod (n := n + 4) (by omega) (TyG.cod (n := n + 3) (by decide) (TyG.cod (n := n + 2) (by omega) (TyG.cod (n := n + 1) (by omega) (TyG.cod (by decide) h.1)))), fun cd L f0 g0 hL hc => ?_⟩
  have hL : n + 5 ≤ L := hL
  have hc : ∀ i : Nat, i < n + 5 → cd i = cdX (xAp (xAp (xAp (xAp (xAp X n 40) (n + 1) (lLt a)) (n + 2) (lLt b)) (n + 3) 41) (n + 4) (48 + T)) i := hc
  refine (h.2 cd L f0 g0 (show n ≤ L by omega) (fun i hi => ?_)).group (by show n + 4 < L; omega) ha hb hT hT3 ?_ ?_ ?_ ?_ ?_
  · have hi : i < n := hi
    rw [hc i (by omega), cdX_no (by omega), cdX_no (by omega), cdX_no (by omega), cdX_no (by omega), cdX_no (by omega)]
  · show cd n = 40
    rw [hc n (by omega), cdX_no (by omega), cdX_no (by omega), cdX_no (by omega), cdX_no (by omega), cdX_at (by decide)]
  · show cd (n + 1) = lLt a
    rw [hc _ (by omega), cdX_no (by omega), cdX_no (by omega), cdX_no (by omega), cdX_at (by omega)]
  · show cd (n + 2) = lLt b
    rw [hc _ (by omega), cdX_no (by omega), cdX_no (by omega), cdX_at (by omega)]
  · show cd (n + 3) = 41
    rw [hc _ (by omega), cdX_no (by omega), cdX_at (by decide)]
  · show cd (n + 4) = 48 + T
    rw [hc _ (by omega), cdX_at (by omega)]
theorem tyS_G (vv : Int32) (X : Nat → Nat → Int32) (k : Nat) : TyG (tyS vv X k) := by
  induction k with
  | zero => exact TyG.zero _
  | succ k ih =>
    have ha := loN_lt (tyX vv k) (n := 7) (by decide)
    have hb := loN_lt (iShr (tyX vv k) (nI 3)) (n := 7) (by decide)
    have ht := loN_lt (iShr (tyX vv k) (nI 8)) (n := 2) (by decide)
    show TyG (tyI vv k (tyS vv X k))
    rcases Nat.eq_zero_or_pos (loN (iShr (tyX vv k) (nI 6)) 3) with h | h
    · rw [tyI_2 h]
      exact TyG.group (X := (tyS vv X k).1) ih ha hb (by omega) (by omega)
    · rw [tyI_1 h]
      exact TyG.note (X := (tyS vv X k).1) ih ha
theorem dcA_G (xx : Int32) (tu : Nat) (X : Nat → Nat → Int32) (k : Nat) : TyG (dcA xx tu X k) := by
  induction k with
  | zero => exact TyG.zero _
  | succ k ih => exact TyG.note (X := (dcA xx tu X k).1) ih (dcN_lt xx tu k)
theorem tyS_0 (vv : Int32) (X : Nat → Nat → Int32) (k : Nat) : k ≤ (tyS vv X k).2.1 := by
  induction k with
  | zero => exact Nat.le_refl 0
  | succ k ih =>
    show k + 1 ≤ (tyI vv k (tyS vv X k)).2.1
    rcases Nat.eq_zero_or_pos (loN (iShr (tyX vv k) (nI 6)) 3) with h | h
    · rw [tyI_2 h]
      show k + 1 ≤ (tyS vv X k).2.1 + 5
      omega
    · rw [tyI_1 h]
      show k + 1 ≤ (tyS vv X k).2.1 + 1
      omega
theorem tyE_G (vv : Int32) (X : Nat → Nat → Int32) : TyG (tyE vv X) ∧ 0 < (tyE vv X).2.1 := ⟨tyS_G vv X _, Nat.lt_of_lt_of_le (show 0 < 1 + loN vv 4 by omega) (tyS_0 vv X _)⟩
theorem dcE_G (xx : Int32) (tn : Nat → Nat) (X : Nat → Nat → Int32) : TyG (dcE xx tn X) ∧ 0 < (dcE xx tn X).2.1 := by
  unfold dcE
  split
  · exact tyE_G _ X
  · rename_i h
    exact ⟨dcA_G _ _ X _, by rw [(dcA_b xx _ X _).1]; omega⟩
/-- what a typed text gives WhistleTunes: codes, that it is a tune, its notes -/
theorem TyG.out {z : TyS} (h : TyG z) (h0 : 0 < z.2.1) : (∀ i : Nat, i < z.2.1 → z.1 1 i = nI (cdX z.1 i)) ∧ (∀ i : Nat, i < z.2.1 → cdX z.1 i < 127) ∧ bT (cdX z.1) z.2.1 = true ∧ gEr (cdX z.1) z.2.1 4 false = z.2.1 ∧ ∀ U : Nat → Nat → Int32, ntT (cdX z.1) z.2.1 U = uMy z.2.2 ∧ tGd (uMy z.2.2) (rTu U (cdX z.1) z.2.1 1) ∧ (uMy z.2.2 ≤ 8 → z.2.2 % 16777216 < 2 ^ (3 * uMy z.2.2) ∧ ∀ j : Nat, j < uMy z.2.2 → rTu U (cdX z.1) z.2.1 1 j = nI (uNt z.2.2 j) ∧ uNt z.2.2 j < 7) := by
  have hU : ∀ U : Nat → Nat → Int32, TyT (cdX z.1) z.2.1 (U 1) (U 2) z.2.1 z.2.2 := fun U => h.2 _ _ _ _ (Nat.le_refl _) (fun _ _ => rfl)
  have h1 := TyT.fin (U := fun _ _ => 0) (hU (fun _ _ => 0)) h0
  exact ⟨fun i hi => (h.1 i hi).1, fun i hi => (h.1 i hi).2, h1.1, h1.2.1, fun U => ((hU U).fin h0).2.2⟩
