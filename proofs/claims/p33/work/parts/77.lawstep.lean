/-! each call keeps school and numbers together -/
theorem sm_cases {P : Nat → Prop} (h1 : ∀ j : Nat, j < 12 → P j) (h2 : ∀ j : Nat, 12 ≤ j → j < 14 → P j) (h3 : ∀ i : Nat, i < 30 → P (14 + i)) (h4 : ∀ i : Nat, i < 3 → P (44 + i)) (h5 : ∀ m : Nat, m < 20 → P (47 + 11 * m) ∧ P (47 + 11 * m + 1) ∧ P (47 + 11 * m + 2) ∧ ∀ k : Nat, k < 8 → P (47 + 11 * m + (3 + k))) : ∀ j : Nat, j < 267 → P j := by
  intro j hj
  rcases Nat.lt_or_ge j 12 with q | q
  · exact h1 j q
  · rcases Nat.lt_or_ge j 14 with q2 | q2
    · exact h2 j q q2
    · rcases Nat.lt_or_ge j 44 with q3 | q3
      · have h := h3 (j - 14) (by omega)
        rwa [show 14 + (j - 14) = j from by omega] at h
      · rcases Nat.lt_or_ge j 47 with q4 | q4
        · have h := h4 (j - 44) (by omega)
          rwa [show 44 + (j - 44) = j from by omega] at h
        · obtain ⟨a, b, c, d⟩ := h5 ((j - 47) / 11) (by omega)
          rcases (show (j - 47) % 11 = 0 ∨ (j - 47) % 11 = 1 ∨ (j - 47) % 11 = 2 ∨ 3 ≤ (j - 47) % 11 by omega) with e | e | e | e
          · rwa [show 47 + 11 * ((j - 47) / 11) = j from by omega] at a
          · rwa [show 47 + 11 * ((j - 47) / 11) + 1 = j from by omega] at b
          · rwa [show 47 + 11 * ((j - 47) / 11) + 2 = j from by omega] at c
          · have h := d ((j - 47) % 11 - 3) (by omega)
            rwa [show 47 + 11 * ((j - 47) / 11) + (3 + ((j - 47) % 11 - 3)) = j from by omega] at h
section SMU
variable {fq ft fr fb : Nat → Int32} {tn : Nat → Nat}
theorem smu_q {i : Nat} {v : Int32} (hi : i < 12) : ∀ j : Nat, j < 267 → stM (upd fq i v) ft fr fb tn j = upd (stM fq ft fr fb tn) i v j := by
  refine sm_cases (fun j hj => ?_) (fun j a b => ?_) (fun i' h => ?_) (fun i' h => ?_) (fun m hm => ⟨?_, ?_, ?_, fun k hk => ?_⟩)
  · rw [sm_q hj]
    by_cases h : j = i
    · rw [h, upd_at, upd_at]
    · rw [upd_no h, upd_no h, sm_q hj]
  · rw [sm_s a b, upd_no (by omega), sm_s a b]
  · rw [sm_r h, upd_no (by omega), sm_r h]
  · rw [sm_b h, upd_no (by omega), sm_b h]
  · rw [sm_0, upd_no (by omega), sm_0]
  · rw [sm_1, upd_no (by omega), sm_1]
  · rw [sm_2, upd_no (by omega), sm_2]
  · rw [sk_n m hk, upd_no (by omega), sk_n m hk]
theorem smu_r {i : Nat} {v : Int32} (hi : i < 30) : ∀ j : Nat, j < 267 → stM fq ft (upd fr i v) fb tn j = upd (stM fq ft fr fb tn) (14 + i) v j := by
  refine sm_cases (fun j hj => ?_) (fun j a b => ?_) (fun i' h => ?_) (fun i' h => ?_) (fun m hm => ⟨?_, ?_, ?_, fun k hk => ?_⟩)
  · rw [sm_q hj, upd_no (by omega), sm_q hj]
  · rw [sm_s a b, upd_no (by omega), sm_s a b]
  · rw [sm_r h]
    by_cases h2 : i' = i
    · rw [h2, upd_at, upd_at]
    · rw [upd_no h2, upd_no (by omega), sm_r h]
  · rw [sm_b h, upd_no (by omega), sm_b h]
  · rw [sm_0, upd_no (by omega), sm_0]
  · rw [sm_1, upd_no (by omega), sm_1]
  · rw [sm_2, upd_no (by omega), sm_2]
  · rw [sk_n m hk, upd_no (by omega), sk_n m hk]
theorem smu_b {i : Nat} {v : Int32} (hi : i < 3) : ∀ j : Nat, j < 267 → stM fq ft fr (upd fb i v) tn j = upd (stM fq ft fr fb tn) (44 + i) v j := by
  refine sm_cases (fun j hj => ?_) (fun j a b => ?_) (fun i' h => ?_) (fun i' h => ?_) (fun m hm => ⟨?_, ?_, ?_, fun k hk => ?_⟩)
  · rw [sm_q hj, upd_no (by omega), sm_q hj]
  · rw [sm_s a b, upd_no (by omega), sm_s a b]
  · rw [sm_r h, upd_no (by omega), sm_r h]
  · rw [sm_b h]
    by_cases h2 : i' = i
    · rw [h2, upd_at, upd_at]
    · rw [upd_no h2, upd_no (by omega), sm_b h]
  · rw [sm_0, upd_no (by omega), sm_0]
  · rw [sm_1, upd_no (by omega), sm_1]
  · rw [sm_2, upd_no (by omega), sm_2]
  · rw [sk_n m hk, upd_no (by omega), sk_n m hk]
def tnU (tn : Nat → Nat) (a tu : Nat) : Nat → Nat := fun i => if i = a then tu else tn i
theorem tnU_at {tn : Nat → Nat} {a tu : Nat} : tnU tn a tu a = tu := if_pos rfl
theorem tnU_no {tn : Nat → Nat} {a tu i : Nat} (h : i ≠ a) : tnU tn a tu i = tn i := if_neg h
theorem smu_t {a tu nt : Nat} {t : Nat → Int32} (ha : a < 20) (hn : uMy tu = nt) (ht : ∀ i : Nat, i < 8 → nI (uNt tu i) = if i < nt then t i else nI 0) : ∀ j : Nat, j < 267 → stM fq (upd ft a (nI tu)) fr fb (tnU tn a tu) j = mTcF (stM fq ft fr fb tn) t a nt 8 j := by
  refine sm_cases (fun j hj => ?_) (fun j b c => ?_) (fun i' h => ?_) (fun i' h => ?_) (fun m hm => ⟨?_, ?_, ?_, fun k hk => ?_⟩)
  · rw [sm_q hj, tc_no _ _ _ _ _ _ (by omega) (by omega), sm_q hj]
  · rw [sm_s b c, tc_no _ _ _ _ _ _ (by omega) (by omega), sm_s b c]
  · rw [sm_r h, tc_no _ _ _ _ _ _ (by omega) (by omega), sm_r h]
  · rw [sm_b h, tc_no _ _ _ _ _ _ (by omega) (by omega), sm_b h]
  · rw [sm_0]
    by_cases h2 : m = a
    · rw [h2, tnU_at, tc_len, hn]
    · rw [tnU_no h2, tc_no _ _ _ _ _ _ (by omega) (by omega), sm_0]
  · rw [sm_1, upd_no (by omega), tc_no _ _ _ _ _ _ (by omega) (by omega), sm_1]
  · rw [sm_2, upd_no (by omega), tc_no _ _ _ _ _ _ (by omega) (by omega), sm_2]
  · rw [sk_n m hk]
    by_cases h2 : m = a
    · rw [h2, tnU_at, tc_note _ _ _ _ _ _ hk]
      exact ht k hk
    · rw [tnU_no h2, tc_no _ _ _ _ _ _ (by omega) (by omega), sk_n m hk]
end SMU
section JMS
variable {B : Nat} {S : Nat → Nat → Int32} {fq ft fr fb : Nat → Int32} {tn : Nat → Nat}
theorem JM.mono {B' : Nat} (h : JM B S fq ft fr fb tn) (hB : B ≤ B') : JM B' S fq ft fr fb tn := ⟨h.1.mono hB, h.2⟩
theorem JM.key (h : JM B S fq ft fr fb tn) {a : Nat} (ha : a < 7) : JM B (sc S 1 (nI a)) (vD3q fq a) ft fr fb tn := ⟨h.1.key ha, (h.2.1.key _).cong (h.1.key ha) (smu_q (by decide)), h.2.2⟩
theorem JM.tell (h : JM B S fq ft fr fb tn) {a : Nat} (ha : a < 6) : JM B (sa S 11 (upd (S 11) a (S 0 1))) fq ft (vD2r fq fr a) fb tn := by
  have h1 := h.1.tell (r := a) (h.1.2.1)
  refine ⟨h1, ?_, h.2.2⟩
  unfold vD2r
  rw [← (jm_0 h).2.1]
  exact (h.2.1.tell ha _).cong h1 (smu_r (by omega))
theorem pLk_e (h : JM B S fq ft fr fb tn) (a e : Nat) : pLk S a (decide (e % 2 = 1)) = vD5q fq a e 2 := by
  unfold vD5q pLk
  rw [upd_at, (jm_0 h).2.2.1]
  by_cases h1 : e % 2 = 1
  · rw [decide_eq_true h1, if_pos h1, if_pos rfl]
  · rw [decide_eq_false h1, if_neg h1, if_neg (by decide)]
theorem JM.look (h : JM B S fq ft fr fb tn) {a : Nat} (ha : a < 3) (e : Nat) : JM B (sc S 2 (pLk S a (decide (e % 2 = 1)))) (vD5q fq a e) ft fr fb tn ∧ x6 (vD5q fq a e 2) := by
  have h1 := h.1.lk ha (decide (e % 2 = 1))
  have h2 := pLk_e h a e
  have e2 : vD5q fq a e = upd fq 2 (vD5q fq a e 2) := by
    unfold vD5q
    rw [upd_at]
  refine ⟨⟨h1, ?_, h.2.2⟩, ?_⟩
  · rw [e2, ← h2]
    exact (h.2.1.lk _).cong h1 (smu_q (by decide))
  · obtain ⟨-, -, ⟨g1, g2⟩, -⟩ := h1
    rw [sc_at, h2] at g1 g2
    exact ⟨_, Nat.lt_trans g2 (by decide), g1⟩
theorem JM.set (h : JM B S fq ft fr fb tn) {i v : Nat} (hi : i < 2) (hv : v < if i = 0 then 3 else 10) : JM B (sa S 5 (upd (S 5) i (nI v))) (vD7q fq i v) ft fr fb tn := ⟨h.1.set hi hv, (h.2.1.set hi _).cong (h.1.set hi hv) (smu_q (by omega)), h.2.2⟩
theorem JM.ban (h : JM B S fq ft fr fb tn) {f m : Nat} (hf : f < 3) (hm : m < 20) : JM B (sa S 8 (upd (S 8) m (S 8 m ^^^ iShl (nI 1) (nI f)))) fq ft fr (vD6b fb f m) tn ∧ bI (pHB (S 8 m ^^^ iShl (nI 1) (nI f)) (nI f)) = iShr (vD6b fb f m f) (nI m) &&& nI 1 := by
  have h1 := h.1.ban (m := m) hf
  have h2 := h.2.1.ban hf hm
  have h3 := ban_ans h.2.1 hf hm
  rw [sm_b hf] at h2 h3
  refine ⟨⟨h1, h2.cong h1 (smu_b hf), h.2.2⟩, ?_⟩
  rw [h3, upd_at]
  unfold vD6b
  rw [upd_at]
theorem JM.tun (h : JM B S fq ft fr fb tn) {a tu : Nat} (htu : tu < 167772160) (h0 : uMy tu = 0 → tu = 0) : (∀ i : Nat, i < 20 → upd ft a (nI tu) i = nI (tnU tn a tu i)) ∧ ∀ i : Nat, i < 20 → tnU tn a tu i < 167772160 ∧ (uMy (tnU tn a tu i) = 0 → tnU tn a tu i = 0) := by
  refine ⟨fun i hi => ?_, fun i hi => ?_⟩
  · by_cases h1 : i = a
    · rw [h1, upd_at, tnU_at]
    · rw [upd_no h1, tnU_no h1, h.2.2.1 i hi]
  · by_cases h1 : i = a
    · rw [h1, tnU_at]
      exact ⟨htu, h0⟩
    · rw [tnU_no h1]
      exact h.2.2.2 i hi
theorem JM.forget (h : JM B S fq ft fr fb tn) {a : Nat} (ha : a < 20) : JM B (sa S 6 (upd (S 6) a (nI 0))) fq (vD8t ft a) fr fb (tnU tn a 0) := by
  have h1 := h.1.forget a
  refine ⟨h1, (h.2.1.forget h.1 ha (fun _ => 0)).cong h1 (smu_t ha rfl (fun i hi => ?_)), h.tun (by decide) (fun _ => rfl)⟩
  rw [if_neg (Nat.not_lt_zero i)]
  unfold uNt
  rw [Nat.zero_div]
theorem uNt_0 {tu nt i : Nat} (h : tu % 16777216 < 2 ^ (3 * nt)) (h1 : nt ≤ i) (h8 : i < 8) : uNt tu i = 0 := by
  rw [uNt_low h8, Nat.div_eq_of_lt (Nat.lt_of_lt_of_le h (Nat.pow_le_pow_right (by decide) (by omega)))]
theorem JM.teach (h : JM B S fq ft fr fb tn) {z : TyS} (hz : TyG z) (h0 : 0 < z.2.1) (h9 : z.2.2 < 167772160) (U : Nat → Nat → Int32) {a : Nat} (ha : a < 20) (hI : vIl tn a z.2.2 20 = true) : JM B (sa (sa S 6 (upd (S 6) a (nI (ntT (cdX z.1) z.2.1 U)))) 7 (va_cpy (rTu U (cdX z.1) z.2.1 1) (S 7) 0 (a * 8) (ntT (cdX z.1) z.2.1 U))) fq (vD0t ft tn a z.2.2) fr fb (tnU tn a z.2.2) ∧ nI (ntT (cdX z.1) z.2.1 U) = nI (uMy z.2.2) := by
  have hR : RS S (Zt (stM fq ft fr fb tn) (zN z) (zU z U 1) 2) := h.2.1
  have hT := jTT (stM fq ft fr fb tn) hz h0 h9 U
  have hw := (jteach h hz h0 h9 U ha).2 hI
  have ho := (hz.out h0).2.2.2.2 U
  rw [ho.1]
  refine ⟨?_, rfl⟩
  obtain ⟨⟨n2, n8⟩, -⟩ := wt_0 hT hw
  obtain ⟨l1, l2⟩ := ho.2.2 n8
  have h1 := SI.teach hR h.1 ha hT hw
  have h2 := RS.teach (t := fun j => nI (uNt z.2.2 j)) hR h.1 ha n8 (fun j hj => (l2 j hj).1)
  have e : vD0t ft tn a z.2.2 = upd ft a (nI z.2.2) := by
    unfold vD0t
    rw [if_pos hI]
  rw [e]
  refine ⟨h1, h2.cong h1 (smu_t ha rfl (fun i hi => ?_)), h.tun h9 (fun q => ?_)⟩
  · by_cases hi2 : i < zN z
    · rw [if_pos hi2]
    · rw [if_neg hi2, uNt_0 l1 (show uMy z.2.2 ≤ i by have : zN z = uMy z.2.2 := rfl; omega) hi]
  · have n3 : 2 ≤ uMy z.2.2 := n2
    omega
/-- a night -/
theorem d4_2 (q f : Nat → Int32) (n k : Nat) (h : k < n) : vD4r q f n (5 * k + 2) = nI 0 := by
  induction n with
  | zero => exact absurd h (Nat.not_lt_zero k)
  | succ n ih =>
    show vD4s q (vD4r q f n) n (5 * k + 2) = nI 0
    unfold vD4s
    rw [upd_no (by omega)]
    by_cases h2 : k = n
    · rw [h2, upd_at]
    · rw [upd_no (by omega), ih (by omega)]
theorem d4_no (q f : Nat → Int32) (n j : Nat) (h : ∀ k : Nat, k < n → j ≠ 5 * k + 1 ∧ j ≠ 5 * k + 2) : vD4r q f n j = f j := by
  induction n with
  | zero => rfl
  | succ n ih =>
    have h1 := h n (Nat.lt_succ_self n)
    show vD4s q (vD4r q f n) n j = f j
    unfold vD4s
    rw [upd_no h1.1, upd_no h1.2, ih (fun k hk => h k (by omega))]
theorem d4_1 (q f : Nat → Int32) (n k : Nat) (h : k < n) : vD4r q f n (5 * k + 1) = if iRem (q 0) (nI 7) = 0 then nI 0 else f (5 * k + 1) := by
  induction n with
  | zero => exact absurd h (Nat.not_lt_zero k)
  | succ n ih =>
    show vD4s q (vD4r q f n) n (5 * k + 1) = _
    unfold vD4s
    by_cases h2 : k = n
    · rw [h2, upd_at, upd_no (by omega), d4_no q f n (5 * n + 1) (fun i hi => ⟨by omega, by omega⟩)]
    · rw [upd_no (by omega), upd_no (by omega), ih (by omega)]
theorem smu_4 : ∀ j : Nat, j < 267 → stM (vD4q fq) ft (vD4r (vD4q fq) fr 6) fb tn j = mRiF (stM fq ft fr fb tn) 6 j := by
  refine sm_cases (fun j hj => ?_) (fun j b c => ?_) (fun i h => ?_) (fun i' h => ?_) (fun m hm => ⟨?_, ?_, ?_, fun k hk => ?_⟩)
  · rw [sm_q hj]
    unfold vD4q
    by_cases h : j = 0
    · rw [h, upd_at, rif_0, sm_q (by decide)]
    · rw [upd_no h, rif_no _ _ _ h (fun r hr => ⟨by omega, by omega⟩), sm_q hj]
  · rw [sm_s b c, rif_no _ _ _ (by omega) (fun r hr => ⟨by omega, by omega⟩), sm_s b c]
  · rw [sm_r h]
    by_cases h1 : i % 5 = 1
    · have e : i = 5 * (i / 5) + 1 := by omega
      rw [e, d4_1 _ _ _ _ (by omega), ← Nat.add_assoc, rif_1 _ _ _ (by omega), Nat.add_assoc, sm_r (by omega), sm_q (by decide)]
      show (if iRem (vD4q fq 0) (nI 7) = 0 then nI 0 else fr (5 * (i / 5) + 1)) = _
      unfold vD4q
      rw [upd_at]
      by_cases h2 : iRem (fq 0 + nI 1) (nI 7) = 0
      · rw [if_pos h2, if_pos h2, i32_m0]
      · rw [if_neg h2, if_neg h2, i32_m1]
    · by_cases h2 : i % 5 = 2
      · have e : i = 5 * (i / 5) + 2 := by omega
        rw [e, d4_2 _ _ _ _ (by omega), ← Nat.add_assoc, rif_2 _ _ _ (by omega)]
      · rw [d4_no _ _ _ _ (fun k hk => ⟨by omega, by omega⟩), rif_no _ _ _ (by omega) (fun r hr => ⟨by omega, by omega⟩), sm_r h]
  · rw [sm_b h, rif_no _ _ _ (by omega) (fun r hr => ⟨by omega, by omega⟩), sm_b h]
  · rw [sm_0, rif_no _ _ _ (by omega) (fun r hr => ⟨by omega, by omega⟩), sm_0]
  · rw [sm_1, rif_no _ _ _ (by omega) (fun r hr => ⟨by omega, by omega⟩), sm_1]
  · rw [sm_2, rif_no _ _ _ (by omega) (fun r hr => ⟨by omega, by omega⟩), sm_2]
  · rw [sk_n m hk, rif_no _ _ _ (by omega) (fun r hr => ⟨by omega, by omega⟩), sk_n m hk]
theorem JM.bell (h : JM B S fq ft fr fb tn) (hB : B + 1 < 2 ^ 31) : JM (B + 1) (sa (sc (sc S 0 (S 0 0 + nI 1)) 3 (nI 0)) 12 (pBM (S 0 0 + nI 1) (S 12))) (vD4q fq) ft (vD4r (vD4q fq) fr 6) fb tn ∧ S 0 0 + nI 1 = vD4q fq 0 := by
  have h1 := h.1.bell hB
  refine ⟨⟨h1, h.2.1.bell.cong h1 smu_4, h.2.2⟩, ?_⟩
  unfold vD4q
  rw [upd_at, (jm_0 h).1]
/-- a whistle -/
theorem vB2_c {F : Int32} {f g fb : Nat → Int32} (h : f 0 = g 0) (m k : Nat) : vB2 F f fb m k = vB2 F g fb m k := by
  induction k with
  | zero => rfl
  | succ k ih => simp only [vB2]; rw [ih, h]
theorem vB1_c {F : Int32} {f g fr : Nat → Int32} (h : f 1 = g 1) (r m w k : Nat) : vB1 F f fr r m w k = vB1 F g fr r m w k := by
  induction k with
  | zero => rfl
  | succ k ih =>
    have e : vBj f fr r m w = vBj g fr r m w := by unfold vBj; simp only [h]
    show vB1 F f fr r m w k ||| vBc F f fr r m w k = vB1 F g fr r m w k ||| vBc F g fr r m w k
    rw [ih]
    unfold vBc
    rw [e]
theorem vBr_c {f g fr fb : Nat → Int32} (h : ∀ i : Nat, i < 4 → f i = g i) (r m w : Nat) : vBr f fr fb r m w = vBr g fr fb r m w := by
  have e : ∀ x : Nat, vFl f x = vFl g x := fun x => by unfold vFl; rw [h 2 (by decide), h 3 (by decide)]
  unfold vBr
  rw [e, vB2_c (h 0 (by decide)), vB1_c (h 1 (by decide))]
theorem w2_lo (fq : Nat → Int32) (r m : Nat) {i : Nat} (h : i < 6) : vW2 fq r m i = fq i := by
  unfold vW2
  rw [upd_no (by omega), upd_no (by omega), upd_no (by omega)]
theorem w3_lo (fq fr fb : Nat → Int32) (r m : Nat) {i : Nat} (h : i < 6) : vW3 fq fr fb r m i = fq i := by
  unfold vW3
  rw [upd_no (by omega), w2_lo _ _ _ h]
theorem w4_lo (fq fr fb : Nat → Int32) (r m : Nat) {i : Nat} (h : i < 6) : vW4 fq fr fb r m i = fq i := by
  unfold vW4
  rw [upd_no (by omega), w3_lo _ _ _ _ _ h]
theorem w5_lo (fq fr fb : Nat → Int32) (r m : Nat) {i : Nat} (h : i < 6) : vW5 fq fr fb r m i = fq i := by
  unfold vW5
  rw [upd_no (by omega), w4_lo _ _ _ _ _ h]
theorem w5_9 (fq fr fb : Nat → Int32) (r m : Nat) : vW5 fq fr fb r m 9 = vBr fq fr fb r m 1 := by
  unfold vW5 vW4 vW3
  rw [upd_no (by decide), upd_no (by decide), upd_at]
  exact vBr_c (fun i hi => w2_lo fq r m (by omega)) r m 1
theorem w5_10 (fq fr fb : Nat → Int32) (r m : Nat) : vW5 fq fr fb r m 10 = vBr fq fr fb r m 2 := by
  unfold vW5 vW4
  rw [upd_no (by decide), upd_at]
  exact vBr_c (fun i hi => w3_lo fq fr fb r m (by omega)) r m 2
theorem w5_11 (fq fr fb : Nat → Int32) (r m : Nat) : vW5 fq fr fb r m 11 = vBr fq fr fb r m 3 := by
  unfold vW5
  rw [upd_at]
  exact vBr_c (fun i hi => w4_lo fq fr fb r m (by omega)) r m 3
theorem w5_he (fq fr fb : Nat → Int32) (r m : Nat) : vWh fq fr fb r m = vBr fq fr fb r m 0 := vBr_c (fun i hi => w5_lo fq fr fb r m (by omega)) r m 0
theorem w5_678 (fq fr fb : Nat → Int32) (r m : Nat) : vW5 fq fr fb r m 6 = nI r ∧ vW5 fq fr fb r m 7 = nI m ∧ vW5 fq fr fb r m 8 = vFl fq (r / 2) := by
  unfold vW5 vW4 vW3 vW2
  refine ⟨?_, ?_, ?_⟩
  · rw [upd_no (by decide), upd_no (by decide), upd_no (by decide), upd_no (by decide), upd_no (by decide), upd_at]
  · rw [upd_no (by decide), upd_no (by decide), upd_no (by decide), upd_no (by decide), upd_at]
  · rw [upd_no (by decide), upd_no (by decide), upd_no (by decide), upd_at]
    rfl
theorem rl_no (w5 f : Nat → Int32) (he : Int32) (n j : Nat) (h : ∀ k : Nat, k < n → j ≠ 5 * k + 2 ∧ j ≠ 5 * k + 3 ∧ j ≠ 5 * k + 4) : vRL w5 f he n j = f j := by
  induction n with
  | zero => rfl
  | succ n ih =>
    obtain ⟨h1, h2, h3⟩ := h n (Nat.lt_succ_self n)
    show vR3 w5 (vRL w5 f he n) he n j = f j
    unfold vR3 vR2 vR1
    rw [upd_no h1, upd_no h3, upd_no h2, ih (fun k hk => h k (by omega))]
theorem rl_at (w5 f : Nat → Int32) (he : Int32) (n k : Nat) (h : k < n) : vRL w5 f he n (5 * k + 2) = f (5 * k + 2) ||| (iShr (w5 11) (nI k) &&& nI 1) ∧ vRL w5 f he n (5 * k + 3) = f (5 * k + 3) + (iShr (w5 9) (nI k) &&& nI 1) ∧ vRL w5 f he n (5 * k + 4) = f (5 * k + 4) + ((iShr he (nI k) &&& nI 1) - (iShr (w5 9) (nI k) &&& nI 1)) := by
  induction n with
  | zero => exact absurd h (Nat.not_lt_zero k)
  | succ n ih =>
    by_cases h2 : k = n
    · subst h2
      have e := fun j hj => rl_no w5 f he k j hj
      refine ⟨?_, ?_, ?_⟩
      · show vR3 w5 (vRL w5 f he k) he k (5 * k + 2) = _
        unfold vR3
        rw [upd_at]
        unfold vR2 vR1
        rw [upd_no (by omega), upd_no (by omega), e _ (fun i hi => ⟨by omega, by omega, by omega⟩)]
      · show vR3 w5 (vRL w5 f he k) he k (5 * k + 3) = _
        unfold vR3 vR2
        rw [upd_no (by omega), upd_no (by omega)]
        unfold vR1
        rw [upd_at, e _ (fun i hi => ⟨by omega, by omega, by omega⟩)]
      · show vR3 w5 (vRL w5 f he k) he k (5 * k + 4) = _
        unfold vR3
        rw [upd_no (by omega)]
        unfold vR2
        rw [upd_at]
        unfold vR1
        rw [upd_no (by omega), e _ (fun i hi => ⟨by omega, by omega, by omega⟩)]
    · obtain ⟨i1, i2, i3⟩ := ih (by omega)
      refine ⟨?_, ?_, ?_⟩
      · show vR3 w5 (vRL w5 f he n) he n (5 * k + 2) = _
        unfold vR3 vR2 vR1
        rw [upd_no (by omega), upd_no (by omega), upd_no (by omega), i1]
      · show vR3 w5 (vRL w5 f he n) he n (5 * k + 3) = _
        unfold vR3 vR2 vR1
        rw [upd_no (by omega), upd_no (by omega), upd_no (by omega), i2]
      · show vR3 w5 (vRL w5 f he n) he n (5 * k + 4) = _
        unfold vR3 vR2 vR1
        rw [upd_no (by omega), upd_no (by omega), upd_no (by omega), i3]
theorem hb_and (x y k : Int32) : pHB (x &&& y) k = (pHB x k && pHB y k) := by
  have h1 : iShr (x &&& y) k = iShr x k &&& iShr y k := by
    refine Int32.toBitVec_inj.mp ?_
    show BitVec.sshiftRight' (x.toBitVec &&& y.toBitVec) _ = BitVec.sshiftRight' x.toBitVec _ &&& BitVec.sshiftRight' y.toBitVec _
    exact BitVec.sshiftRight_and_distrib _ _ _
  have h2 : bI (pHB (x &&& y) k) = bI (pHB x k && pHB y k) := by
    rw [← hb_bit, h1, a1_and, hb_bit, hb_bit, bz_and]
  exact bI_inj h2
theorem bsub (h u : Bool) (hu : u = true → h = true) : bI h - bI u = bI (h && !u) := by
  cases h <;> cases u <;> first | rfl | (exact absurd (hu rfl) (by decide)) | decide
end JMS
