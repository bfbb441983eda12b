/-! each call keeps school and numbers together -/
theorem sm_cases {P : Nat → Prop} (h1 : ∀ j : Nat, j < 12 → P j) (h2 : ∀ j : Nat, 12 ≤ j → j < 14 → P j) (h3 : ∀ i : Nat, i < 30 → P (14 + i)) (h4 : ∀ i : Nat, i < 3 → P (44 + i)) (h5 : ∀ m : Nat, m < 20 → P (47 + 11 * m) ∧ P (47 + 11 * m + 1) ∧ P (47 + 11 * m + 2) ∧ ∀ k : Nat, k < 8 → P (47 + 11 * m + (3 + k))) : ∀ j : Nat, j < 267 → P j := by
  intro j hj
  rcases Nat.lt_or_ge j 12 with q | q
  · exact h1 j q
  · rcases Nat.lt_or_ge j 14 with q2 | q2
    · exact h2 j q q2
    · rcases Nat.lt_or_ge j 44 with q3 | q3
      · have h := h3 (j - 14) (by omega)
        rwa [show 14 + (j - 14) = j from by omega] at h
      · rcases Nat.lt_or_ge j 47 with q4 | q4
        · have h := h4 (j - 44) (by omega)
          rwa [show 44 + (j - 44) = j from by omega] at h
        · obtain ⟨a, b, c, d⟩ := h5 ((j - 47) / 11) (by omega)
          rcases (show (j - 47) % 11 = 0 ∨ (j - 47) % 11 = 1 ∨ (j - 47) % 11 = 2 ∨ 3 ≤ (j - 47) % 11 by omega) with e | e | e | e
          · rwa [show 47 + 11 * ((j - 47) / 11) = j from by omega] at a
          · rwa [show 47 + 11 * ((j - 47) / 11) + 1 = j from by omega] at b
          · rwa [show 47 + 11 * ((j - 47) / 11) + 2 = j from by omega] at c
          · have h := d ((j - 47) % 11 - 3) (by omega)
            rwa [show 47 + 11 * ((j - 47) / 11) + (3 + ((j - 47) % 11 - 3)) = j from by omega] at h
section SMU
variable {fq ft fr fb : Nat → Int32} {tn : Nat → Nat}
theorem smu_q {i : Nat} {v : Int32} (hi : i < 12) : ∀ j : Nat, j < 267 → stM (upd fq i v) ft fr fb tn j = upd (stM fq ft fr fb tn) i v j := by
  refine sm_cases (fun j hj => ?_) (fun j a b => ?_) (fun i' h => ?_) (fun i' h => ?_) (fun m hm => ⟨?_, ?_, ?_, fun k hk => ?_⟩)
  · rw [sm_q hj]
    by_cases h : j = i
    · rw [h, upd_at, upd_at]
    · rw [upd_no h, upd_no h, sm_q hj]
  · rw [sm_s a b, upd_no (by omega), sm_s a b]
  · rw [sm_r h, upd_no (by omega), sm_r h]
  · rw [sm_b h, upd_no (by omega), sm_b h]
  · rw [sm_0, upd_no (by omega), sm_0]
  · rw [sm_1, upd_no (by omega), sm_1]
  · rw [sm_2, upd_no (by omega), sm_2]
  · rw [sk_n m hk, upd_no (by omega), sk_n m hk]
theorem smu_r {i : Nat} {v : Int32} (hi : i < 30) : ∀ j : Nat, j < 267 → stM fq ft (upd fr i v) fb tn j = upd (stM fq ft fr fb tn) (14 + i) v j := by
  refine sm_cases (fun j hj => ?_) (fun j a b => ?_) (fun i' h => ?_) (fun i' h => ?_) (fun m hm => ⟨?_, ?_, ?_, fun k hk => ?_⟩)
  · rw [sm_q hj, upd_no (by omega), sm_q hj]
  · rw [sm_s a b, upd_no (by omega), sm_s a b]
  · rw [sm_r h]
    by_cases h2 : i' = i
    · rw [h2, upd_at, upd_at]
    · rw [upd_no h2, upd_no (by omega), sm_r h]
  · rw [sm_b h, upd_no (by omega), sm_b h]
  · rw [sm_0, upd_no (by omega), sm_0]
  · rw [sm_1, upd_no (by omega), sm_1]
  · rw [sm_2, upd_no (by omega), sm_2]
  · rw [sk_n m hk, upd_no (by omega), sk_n m hk]
theorem smu_b {i : Nat} {v : Int32} (hi : i < 3) : ∀ j : Nat, j < 267 → stM fq ft fr (upd fb i v) tn j = upd (stM fq ft fr fb tn) (44 + i) v j := by
  refine sm_cases (fun j hj => ?_) (fun j a b => ?_) (fun i' h => ?_) (fun i' h => ?_) (fun m hm => ⟨?_, ?_, ?_, fun k hk => ?_⟩)
  · rw [sm_q hj, upd_no (by omega), sm_q hj]
  · rw [sm_s a b, upd_no (by omega), sm_s a b]
  · rw [sm_r h, upd_no (by omega), sm_r h]
  · rw [sm_b h]
    by_cases h2 : i' = i
    · rw [h2, upd_at, upd_at]
    · rw [upd_no h2, upd_no (by omega), sm_b h]
  · rw [sm_0, upd_no (by omega), sm_0]
  · rw [sm_1, upd_no (by omega), sm_1]
  · rw [sm_2, upd_no (by omega), sm_2]
  · rw [sk_n m hk, upd_no (by omega), sk_n m hk]
def tnU (tn : Nat → Nat) (a tu : Nat) : Nat → Nat := fun i => if i = a then tu else tn i
theorem tnU_at {tn : Nat → Nat} {a tu : Nat} : tnU tn a tu a = tu := if_pos rfl
theorem tnU_no {tn : Nat → Nat} {a tu i : Nat} (h : i ≠ a) : tnU tn a tu i = tn i := if_neg h
theorem smu_t {a tu nt : Nat} {t : Nat → Int32} (ha : a < 20) (hn : uMy tu = nt) (ht : ∀ i : Nat, i < 8 → nI (uNt tu i) = if i < nt then t i else nI 0) : ∀ j : Nat, j < 267 → stM fq (upd ft a (nI tu)) fr fb (tnU tn a tu) j = mTcF (stM fq ft fr fb tn) t a nt 8 j := by
  refine sm_cases (fun j hj => ?_) (fun j b c => ?_) (fun i' h => ?_) (fun i' h => ?_) (fun m hm => ⟨?_, ?_, ?_, fun k hk => ?_⟩)
  · rw [sm_q hj, tc_no _ _ _ _ _ _ (by omega) (by omega), sm_q hj]
  · rw [sm_s b c, tc_no _ _ _ _ _ _ (by omega) (by omega), sm_s b c]
  · rw [sm_r h, tc_no _ _ _ _ _ _ (by omega) (by omega), sm_r h]
  · rw [sm_b h, tc_no _ _ _ _ _ _ (by omega) (by omega), sm_b h]
  · rw [sm_0]
    by_cases h2 : m = a
    · rw [h2, tnU_at, tc_len, hn]
    · rw [tnU_no h2, tc_no _ _ _ _ _ _ (by omega) (by omega), sm_0]
  · rw [sm_1, upd_no (by omega), tc_no _ _ _ _ _ _ (by omega) (by omega), sm_1]
  · rw [sm_2, upd_no (by omega), tc_no _ _ _ _ _ _ (by omega) (by omega), sm_2]
  · rw [sk_n m hk]
    by_cases h2 : m = a
    · rw [h2, tnU_at, tc_note _ _ _ _ _ _ hk]
      exact ht k hk
    · rw [tnU_no h2, tc_no _ _ _ _ _ _ (by omega) (by omega), sk_n m hk]
end SMU
section JMS
variable {B : Nat} {S : Nat → Nat → Int32} {fq ft fr fb : Nat → Int32} {tn : Nat → Nat}
theorem JM.mono {B' : Nat} (h : JM B S fq ft fr fb tn) (hB : B ≤ B') : JM B' S fq ft fr fb tn := ⟨h.1.mono hB, h.2⟩
theorem JM.key (h : JM B S fq ft fr fb tn) {a : Nat} (ha : a < 7) : JM B (sc S 1 (nI a)) (vD3q fq a) ft fr fb tn := ⟨h.1.key ha, (h.2.1.key _).cong (h.1.key ha) (smu_q (by decide)), h.2.2⟩
theorem JM.tell (h : JM B S fq ft fr fb tn) {a : Nat} (ha : a < 6) : JM B (sa S 11 (upd (S 11) a (S 0 1))) fq ft (vD2r fq fr a) fb tn := by
  have h1 := h.1.tell (r := a) (h.1.2.1)
  refine ⟨h1, ?_, h.2.2⟩
  unfold vD2r
  rw [← (jm_0 h).2.1]
  exact (h.2.1.tell ha _).cong h1 (smu_r (by omega))
theorem pLk_e (h : JM B S fq ft fr fb tn) (a e : Nat) : pLk S a (decide (e % 2 = 1)) = vD5q fq a e 2 := by
  unfold vD5q pLk
  rw [upd_at, (jm_0 h).2.2.1]
  by_cases h1 : e % 2 = 1
  · rw [decide_eq_true h1, if_pos h1, if_pos rfl]
  · rw [decide_eq_false h1, if_neg h1, if_neg (by decide)]
theorem JM.look (h : JM B S fq ft fr fb tn) {a : Nat} (ha : a < 3) (e : Nat) : JM B (sc S 2 (pLk S a (decide (e % 2 = 1)))) (vD5q fq a e) ft fr fb tn ∧ x6 (vD5q fq a e 2) := by
  have h1 := h.1.lk ha (decide (e % 2 = 1))
  have h2 := pLk_e h a e
  have e2 : vD5q fq a e = upd fq 2 (vD5q fq a e 2) := by
    unfold vD5q
    rw [upd_at]
  refine ⟨⟨h1, ?_, h.2.2⟩, ?_⟩
  · rw [e2, ← h2]
    exact (h.2.1.lk _).cong h1 (smu_q (by decide))
  · obtain ⟨-, -, ⟨g1, g2⟩, -⟩ := h1
    rw [sc_at, h2] at g1 g2
    exact ⟨_, Nat.lt_trans g2 (by decide), g1⟩
theorem JM.set (h : JM B S fq ft fr fb tn) {i v : Nat} (hi : i < 2) (hv : v < if i = 0 then 3 else 10) : JM B (sa S 5 (upd (S 5) i (nI v))) (vD7q fq i v) ft fr fb tn := ⟨h.1.set hi hv, (h.2.1.set hi _).cong (h.1.set hi hv) (smu_q (by omega)), h.2.2⟩
theorem JM.ban (h : JM B S fq ft fr fb tn) {f m : Nat} (hf : f < 3) (hm : m < 20) : JM B (sa S 8 (upd (S 8) m (S 8 m ^^^ iShl (nI 1) (nI f)))) fq ft fr (vD6b fb f m) tn ∧ bI (pHB (S 8 m ^^^ iShl (nI 1) (nI f)) (nI f)) = iShr (vD6b fb f m f) (nI m) &&& nI 1 := by
  have h1 := h.1.ban (m := m) hf
  have h2 := h.2.1.ban hf hm
  have h3 := ban_ans h.2.1 hf hm
  rw [sm_b hf] at h2 h3
  refine ⟨⟨h1, h2.cong h1 (smu_b hf), h.2.2⟩, ?_⟩
  rw [h3, upd_at]
  unfold vD6b
  rw [upd_at]
theorem JM.tun (h : JM B S fq ft fr fb tn) {a tu : Nat} (htu : tu < 167772160) (h0 : uMy tu = 0 → tu = 0) : (∀ i : Nat, i < 20 → upd ft a (nI tu) i = nI (tnU tn a tu i)) ∧ ∀ i : Nat, i < 20 → tnU tn a tu i < 167772160 ∧ (uMy (tnU tn a tu i) = 0 → tnU tn a tu i = 0) := by
  refine ⟨fun i hi => ?_, fun i hi => ?_⟩
  · by_cases h1 : i = a
    · rw [h1, upd_at, tnU_at]
    · rw [upd_no h1, tnU_no h1, h.2.2.1 i hi]
  · by_cases h1 : i = a
    · rw [h1, tnU_at]
      exact ⟨htu, h0⟩
    · rw [tnU_no h1]
      exact h.2.2.2 i hi
theorem JM.forget (h : JM B S fq ft fr fb tn) {a : Nat} (ha : a < 20) : JM B (sa S 6 (upd (S 6) a (nI 0))) fq (vD8t ft a) fr fb (tnU tn a 0) := by
  have h1 := h.1.forget a
  refine ⟨h1, (h.2.1.forget h.1 ha (fun _ => 0)).cong h1 (smu_t ha rfl (fun i hi => ?_)), h.tun (by decide) (fun _ => rfl)⟩
  rw [if_neg (Nat.not_lt_zero i)]
  unfold uNt
  rw [Nat.zero_div]
theorem uNt_0 {tu nt i : Nat} (h : tu % 16777216 < 2 ^ (3 * nt)) (h1 : nt ≤ i) (h8 : i < 8) : uNt tu i = 0 := by
  rw [uNt_low h8, Nat.div_eq_of_lt (Nat.lt_of_lt_of_le h (Nat.pow_le_pow_right (by decide) (by omega)))]
theorem JM.teach (h : JM B S fq ft fr fb tn) {z : TyS} (hz : TyG z) (h0 : 0 < z.2.1) (h9 : z.2.2 < 167772160) (U : Nat → Nat → Int32) {a : Nat} (ha : a < 20) (hI : vIl tn a z.2.2 20 = true) : JM B (sa (sa S 6 (upd (S 6) a (nI (ntT (cdX z.1) z.2.1 U)))) 7 (va_cpy (rTu U (cdX z.1) z.2.1 1) (S 7) 0 (a * 8) (ntT (cdX z.1) z.2.1 U))) fq (vD0t ft tn a z.2.2) fr fb (tnU tn a z.2.2) ∧ nI (ntT (cdX z.1) z.2.1 U) = nI (uMy z.2.2) := by
  have hR : RS S (Zt (stM fq ft fr fb tn) (zN z) (zU z U 1) 2) := h.2.1
  have hT := jTT (stM fq ft fr fb tn) hz h0 h9 U
  have hw := (jteach h hz h0 h9 U ha).2 hI
  have ho := (hz.out h0).2.2.2.2 U
  rw [ho.1]
  refine ⟨?_, rfl⟩
  obtain ⟨⟨n2, n8⟩, -⟩ := wt_0 hT hw
  obtain ⟨l1, l2⟩ := ho.2.2 n8
  have h1 := SI.teach hR h.1 ha hT hw
  have h2 := RS.teach (t := fun j => nI (uNt z.2.2 j)) hR h.1 ha n8 (fun j hj => (l2 j hj).1)
  have e : vD0t ft tn a z.2.2 = upd ft a (nI z.2.2) := by
    unfold vD0t
    rw [if_pos hI]
  rw [e]
  refine ⟨h1, h2.cong h1 (smu_t ha rfl (fun i hi => ?_)), h.tun h9 (fun q => ?_)⟩
  · by_cases hi2 : i < zN z
    · rw [if_pos hi2]
    · rw [if_neg hi2, uNt_0 l1 (show uMy z.2.2 ≤ i by have : zN z = uMy z.2.2 := rfl; omega) hi]
  · have n3 : 2 ≤ uMy z.2.2 := n2
    omega
/-- a night -/
theorem d4_2 (q f : Nat → Int32) (n k : Nat) (h : k < n) : vD4r q f n (5 * k + 2) = nI 0 := by
  induction n with
  | zero => exact absurd h (Nat.not_lt_zero k)
  | succ n ih =>
    show vD4s q (vD4r q f n) n (5 * k + 2) = nI 0
    unfold vD4s
    rw [upd_no (by omega)]
    by_cases h2 : k = n
    · rw [h2, upd_at]
    · rw [upd_no (by omega), ih (by omega)]
theorem d4_no (q f : Nat → Int32) (n j : Nat) (h : ∀ k : Nat, k < n → j ≠ 5 * k + 1 ∧ j ≠ 5 * k + 2) : vD4r q f n j = f j := by
  induction n with
  | zero => rfl
  | succ n ih =>
    have h1 := h n (Nat.lt_succ_self n)
    show vD4s q (vD4r q f n) n j = f j
    unfold vD4s
    rw [upd_no h1.1, upd_no h1.2, ih (fun k hk => h k (by omega))]
theorem d4_1 (q f : Nat → Int32) (n k : Nat) (h : k < n) : vD4r q f n (5 * k + 1) = if iRem (q 0) (nI 7) = 0 then nI 0 else f (5 * k + 1) := by
  induction n with
  | zero => exact absurd h (Nat.not_lt_zero k)
  | succ n ih =>
    show vD4s q (vD4r q f n) n (5 * k + 1) = _
    unfold vD4s
    by_cases h2 : k = n
    · rw [h2, upd_at, upd_no (by omega), d4_no q f n (5 * n + 1) (fun i hi => ⟨by omega, by omega⟩)]
    · rw [upd_no (by omega), upd_no (by omega), ih (by omega)]
theorem smu_4 : ∀ j : Nat, j < 267 → stM (vD4q fq) ft (vD4r (vD4q fq) fr 6) fb tn j = mRiF (stM fq ft fr fb tn) 6 j := by
  refine sm_cases (fun j hj => ?_) (fun j b c => ?_) (fun i h => ?_) (fun i' h => ?_) (fun m hm => ⟨?_, ?_, ?_, fun k hk => ?_⟩)
  · rw [sm_q hj]
    unfold vD4q
    by_cases h : j = 0
    · rw [h, upd_at, rif_0, sm_q (by decide)]
    · rw [upd_no h, rif_no _ _ _ h (fun r hr => ⟨by omega, by omega⟩), sm_q hj]
  · rw [sm_s b c, rif_no _ _ _ (by omega) (fun r hr => ⟨by omega, by omega⟩), sm_s b c]
  · rw [sm_r h]
    by_cases h1 : i % 5 = 1
    · have e : i = 5 * (i / 5) + 1 := by omega
      rw [e, d4_1 _ _ _ _ (by omega), ← Nat.add_assoc, rif_1 _ _ _ (by omega), Nat.add_assoc, sm_r (by omega), sm_q (by decide)]
      show (if iRem (vD4q fq 0) (nI 7) = 0 then nI 0 else fr (5 * (i / 5) + 1)) = _
      unfold vD4q
      rw [upd_at]
      by_cases h2 : iRem (fq 0 + nI 1) (nI 7) = 0
      · rw [if_pos h2, if_pos h2, i32_m0]
      · rw [if_neg h2, if_neg h2, i32_m1]
    · by_cases h2 : i % 5 = 2
      · have e : i = 5 * (i / 5) + 2 := by omega
        rw [e, d4_2 _ _ _ _ (by omega), ← Nat.add_assoc, rif_2 _ _ _ (by omega)]
      · rw [d4_no _ _ _ _ (fun k hk => ⟨by omega, by omega⟩), rif_no _ _ _ (by omega) (fun r hr => ⟨by omega, by omega⟩), sm_r h]
  · rw [sm_b h, rif_no _ _ _ (by omega) (fun r hr => ⟨by omega, by omega⟩), sm_b h]
  · rw [sm_0, rif_no _ _ _ (by omega) (fun r hr => ⟨by omega, by omega⟩), sm_0]
  · rw [sm_1, rif_no _ _ _ (by omega) (fun r hr => ⟨by omega, by omega⟩), sm_1]
  · rw [sm_2, rif_no _ _ _ (by omega) (fun r hr => ⟨by omega, by omega⟩), sm_2]
  · rw [sk_n m hk, rif_no _ _ _ (by omega) (fun r hr => ⟨by omega, by omega⟩), sk_n m hk]
theorem JM.bell (h : JM B S fq ft fr fb tn) (hB : B + 1 < 2 ^ 31) : JM (B + 1) (sa (sc (sc S 0 (S 0 0 + nI 1)) 3 (nI 0)) 12 (pBM (S 0 0 + nI 1) (S 12))) (vD4q fq) ft (vD4r (vD4q fq) fr 6) fb tn ∧ S 0 0 + nI 1 = vD4q fq 0 := by
  have h1 := h.1.bell hB
  refine ⟨⟨h1, h.2.1.bell.cong h1 smu_4, h.2.2⟩, ?_⟩
  unfold vD4q
  rw [upd_at, (jm_0 h).1]
/-- a whistle -/
theorem vB2_c {F : Int32} {f g fb : Nat → Int32} (h : f 0 = g 0) (m k : Nat) : vB2 F f fb m k = vB2 F g fb m k := by
  induction k with
  | zero => rfl
  | succ k ih => simp only [vB2]; rw [ih, h]
theorem vB1_c {F : Int32} {f g fr : Nat → Int32} (h : f 1 = g 1) (r m w k : Nat) : vB1 F f fr r m w k = vB1 F g fr r m w k := by
  induction k with
  | zero => rfl
  | succ k ih =>
    have e : vBj f fr r m w = vBj g fr r m w := by unfold vBj; simp only [h]
    show vB1 F f fr r m w k ||| vBc F f fr r m w k = vB1 F g fr r m w k ||| vBc F g fr r m w k
    rw [ih]
    unfold vBc
    rw [e]
theorem vBr_c {f g fr fb : Nat → Int32} (h : ∀ i : Nat, i < 4 → f i = g i) (r m w : Nat) : vBr f fr fb r m w = vBr g fr fb r m w := by
  have e : ∀ x : Nat, vFl f x = vFl g x := fun x => by unfold vFl; rw [h 2 (by decide), h 3 (by decide)]
  unfold vBr
  rw [e, vB2_c (h 0 (by decide)), vB1_c (h 1 (by decide))]
theorem w2_lo (fq : Nat → Int32) (r m : Nat) {i : Nat} (h : i < 6) : vW2 fq r m i = fq i := by
  unfold vW2
  rw [upd_no (by omega), upd_no (by omega), upd_no (by omega)]
theorem w3_lo (fq fr fb : Nat → Int32) (r m : Nat) {i : Nat} (h : i < 6) : vW3 fq fr fb r m i = fq i := by
  unfold vW3
  rw [upd_no (by omega), w2_lo _ _ _ h]
theorem w4_lo (fq fr fb : Nat → Int32) (r m : Nat) {i : Nat} (h : i < 6) : vW4 fq fr fb r m i = fq i := by
  unfold vW4
  rw [upd_no (by omega), w3_lo _ _ _ _ _ h]
theorem w5_lo (fq fr fb : Nat → Int32) (r m : Nat) {i : Nat} (h : i < 6) : vW5 fq fr fb r m i = fq i := by
  unfold vW5
  rw [upd_no (by omega), w4_lo _ _ _ _ _ h]
theorem w5_9 (fq fr fb : Nat → Int32) (r m : Nat) : vW5 fq fr fb r m 9 = vBr fq fr fb r m 1 := by
  unfold vW5 vW4 vW3
  rw [upd_no (by decide), upd_no (by decide), upd_at]
  exact vBr_c (fun i hi => w2_lo fq r m (by omega)) r m 1
theorem w5_10 (fq fr fb : Nat → Int32) (r m : Nat) : vW5 fq fr fb r m 10 = vBr fq fr fb r m 2 := by
  unfold vW5 vW4
  rw [upd_no (by decide), upd_at]
  exact vBr_c (fun i hi => w3_lo fq fr fb r m (by omega)) r m 2
theorem w5_11 (fq fr fb : Nat → Int32) (r m : Nat) : vW5 fq fr fb r m 11 = vBr fq fr fb r m 3 := by
  unfold vW5
  rw [upd_at]
  exact vBr_c (fun i hi => w4_lo fq fr fb r m (by omega)) r m 3
theorem w5_he (fq fr fb : Nat → Int32) (r m : Nat) : vWh fq fr fb r m = vBr fq fr fb r m 0 := vBr_c (fun i hi => w5_lo fq fr fb r m (by omega)) r m 0
theorem w5_678 (fq fr fb : Nat → Int32) (r m : Nat) : vW5 fq fr fb r m 6 = nI r ∧ vW5 fq fr fb r m 7 = nI m ∧ vW5 fq fr fb r m 8 = vFl fq (r / 2) := by
  unfold vW5 vW4 vW3 vW2
  refine ⟨?_, ?_, ?_⟩
  · rw [upd_no (by decide), upd_no (by decide), upd_no (by decide), upd_no (by decide), upd_no (by decide), upd_at]
  · rw [upd_no (by decide), upd_no (by decide), upd_no (by decide), upd_no (by decide), upd_at]
  · rw [upd_no (by decide), upd_no (by decide), upd_no (by decide), upd_at]
    rfl
theorem rl_no (w5 f : Nat → Int32) (he : Int32) (n j : Nat) (h : ∀ k : Nat, k < n → j ≠ 5 * k + 2 ∧ j ≠ 5 * k + 3 ∧ j ≠ 5 * k + 4) : vRL w5 f he n j = f j := by
  induction n with
  | zero => rfl
  | succ n ih =>
    obtain ⟨h1, h2, h3⟩ := h n (Nat.lt_succ_self n)
    show vR3 w5 (vRL w5 f he n) he n j = f j
    unfold vR3 vR2 vR1
    rw [upd_no h1, upd_no h3, upd_no h2, ih (fun k hk => h k (by omega))]
theorem rl_at (w5 f : Nat → Int32) (he : Int32) (n k : Nat) (h : k < n) : vRL w5 f he n (5 * k + 2) = f (5 * k + 2) ||| (iShr (w5 11) (nI k) &&& nI 1) ∧ vRL w5 f he n (5 * k + 3) = f (5 * k + 3) + (iShr (w5 9) (nI k) &&& nI 1) ∧ vRL w5 f he n (5 * k + 4) = f (5 * k + 4) + ((iShr he (nI k) &&& nI 1) - (iShr (w5 9) (nI k) &&& nI 1)) := by
  induction n with
  | zero => exact absurd h (Nat.not_lt_zero k)
  | succ n ih =>
    by_cases h2 : k = n
    · subst h2
      have e := fun j hj => rl_no w5 f he k j hj
      refine ⟨?_, ?_, ?_⟩
      · show vR3 w5 (vRL w5 f he k) he k (5 * k + 2) = _
        unfold vR3
        rw [upd_at]
        unfold vR2 vR1
        rw [upd_no (by omega), upd_no (by omega), e _ (fun i hi => ⟨by omega, by omega, by omega⟩)]
      · show vR3 w5 (vRL w5 f he k) he k (5 * k + 3) = _
        unfold vR3 vR2
        rw [upd_no (by omega), upd_no (by omega)]
        unfold vR1
        rw [upd_at, e _ (fun i hi => ⟨by omega, by omega, by omega⟩)]
      · show vR3 w5 (vRL w5 f he k) he k (5 * k + 4) = _
        unfold vR3
        rw [upd_no (by omega)]
        unfold vR2
        rw [upd_at]
        unfold vR1
        rw [upd_no (by omega), e _ (fun i hi => ⟨by omega, by omega, by omega⟩)]
    · obtain ⟨i1, i2, i3⟩ := ih (by omega)
      refine ⟨?_, ?_, ?_⟩
      · show vR3 w5 (vRL w5 f he n) he n (5 * k + 2) = _
        unfold vR3 vR2 vR1
        rw [upd_no (by omega), upd_no (by omega), upd_no (by omega), i1]
      · show vR3 w5 (vRL w5 f he n) he n (5 * k + 3) = _
        unfold vR3 vR2 vR1
        rw [upd_no (by omega), upd_no (by omega), upd_no (by omega), i2]
      · show vR3 w5 (vRL w5 f he n) he n (5 * k + 4) = _
        unfold vR3 vR2 vR1
        rw [upd_no (by omega), upd_no (by omega), upd_no (by omega), i3]
theorem hb_and (x y k : Int32) : pHB (x &&& y) k = (pHB x k && pHB y k) := by
  have h1 : iShr (x &&& y) k = iShr x k &&& iShr y k := by
    refine Int32.toBitVec_inj.mp ?_
    show BitVec.sshiftRight' (x.toBitVec &&& y.toBitVec) _ = BitVec.sshiftRight' x.toBitVec _ &&& BitVec.sshiftRight' y.toBitVec _
    exact BitVec.sshiftRight_and_distrib _ _ _
  have h2 : bI (pHB (x &&& y) k) = bI (pHB x k && pHB y k) := by
    rw [← hb_bit, h1, a1_and, hb_bit, hb_bit, bz_and]
  exact bI_inj h2
theorem bsub (h u : Bool) (hu : u = true → h = true) : bI h - bI u = bI (h && !u) := by
  cases h <;> cases u <;> first | rfl | (exact absurd (hu rfl) (by decide)) | decide
end JMS
/-! a whistle keeps school and numbers together; what the law's numbers become, by kind of call -/
section JMW
variable {B : Nat} {S : Nat → Nat → Int32} {fq ft fr fb : Nat → Int32} {tn : Nat → Nat}
theorem x6_v {x : Int32} (h : x6 x) : x = nI (nOf x) ∧ nOf x < 64 := by
  obtain ⟨n, hn, rfl⟩ := h
  rw [nOf_n (by omega)]
  exact ⟨rfl, hn⟩
theorem q_at6 {f : Nat → Int32} {j : Nat} (h : 5 < j) (h2 : j < 12) (a b c d e g : Int32) : upd (upd (upd (upd (upd (upd f 6 a) 7 b) 8 c) 9 d) 10 e) 11 g j = if j = 6 then a else if j = 7 then b else if j = 8 then c else if j = 9 then d else if j = 10 then e else g := by
  rcases (show j = 6 ∨ j = 7 ∨ j = 8 ∨ j = 9 ∨ j = 10 ∨ j = 11 by omega) with rfl | rfl | rfl | rfl | rfl | rfl <;> rfl
theorem smu_w (h : JM B S fq ft fr fb tn) {r m : Nat} (hr : r < 6) (hm : m < 20) : ∀ j : Nat, j < 267 → stM (vWq fq fr fb r m) (vWt fq ft fr fb r m) (vWr fq fr fb r m) fb tn j = mWhF (fun _ => stM fq ft fr fb tn) r m j := by
  have hR : RS S ((fun _ : Nat => stM fq ft fr fb tn) 2) := h.2.1
  have hun : mKn (fun _ => stM fq ft fr fb tn) r 6 = vBr fq fr fb r m 1 := (un_eq hR h.1 hr).1.symm.trans (jun h hr m).1
  have hhe : mHe (fun _ => stM fq ft fr fb tn) r 6 = vBr fq fr fb r m 0 := (he_eq hR h.1 hr).1.symm.trans (jhe h hr m).1
  have hca : mCa (fun _ => stM fq ft fr fb tn) r m 3 = vBr fq fr fb r m 2 := (ca_eq hR h.1 hr hm).1.symm.trans (jca h hr hm).1
  have hra : mRa (fun _ => stM fq ft fr fb tn) r m = vBr fq fr fb r m 3 := (ra_eq hR h.1 hr).1.symm.trans (jra h hr).1
  have hfl : mF2 (fun _ => stM fq ft fr fb tn) (r / 2) 27 = vFl fq (r / 2) := (fl_eq hR h.1 hr).1.symm.trans (jfl h hr).1
  have x1 := x6_v (jx1 h hr m)
  have x2 := x6_v (jx2 h hr hm)
  have o1 := (on_eq x1.1 x1.2).1
  have o2 := (on_eq x2.1 x2.2).1
  obtain ⟨w6, w7, w8⟩ := w5_678 fq fr fb r m
  have w9 := w5_9 fq fr fb r m
  have w10 := w5_10 fq fr fb r m
  have w11 := w5_11 fq fr fb r m
  have hno : ∀ j : Nat, (j < 5 ∨ 11 < j) → (∀ k : Nat, k < 6 → ¬ j = 14 + 5 * k + 2 ∧ ¬ j = 14 + 5 * k + 3 ∧ ¬ j = 14 + 5 * k + 4) → ¬ j = 14 + 5 * r + 1 → ¬ j = 47 + 11 * m + 1 → ¬ j = 47 + 11 * m + 2 → mWhF (fun _ => stM fq ft fr fb tn) r m j = stM fq ft fr fb tn j := fun j a b c d e => whF_no (Y := fun _ => stM fq ft fr fb tn) a b c d e
  refine sm_cases (fun j hj => ?_) (fun j b c => ?_) (fun i h9 => ?_) (fun i' h9 => ?_) (fun o ho => ⟨?_, ?_, ?_, fun k hk => ?_⟩)
  · rw [sm_q hj]
    unfold vWq
    by_cases h5 : j = 5
    · rw [h5, upd_at, w5_lo _ _ _ _ _ (by decide), whF_5 hr, sm_q (by decide)]
    · rw [upd_no h5]
      by_cases hlo : j < 5
      · rw [w5_lo _ _ _ _ _ (by omega), hno j (Or.inl hlo) (fun k hk => ⟨by omega, by omega, by omega⟩) (by omega) (by omega) (by omega), sm_q hj]
      · rw [whF_late (by omega) hj]
        unfold mWh0
        rw [q_at6 (by omega) hj, hfl, hun, hca, hra]
        rcases (show j = 6 ∨ j = 7 ∨ j = 8 ∨ j = 9 ∨ j = 10 ∨ j = 11 by omega) with rfl | rfl | rfl | rfl | rfl | rfl
        · exact w6
        · exact w7
        · exact w8
        · exact w9
        · exact w10
        · exact w11
  · rw [sm_s b c, hno j (by omega) (fun k hk => ⟨by omega, by omega, by omega⟩) (by omega) (by omega) (by omega), sm_s b c]
  · rw [sm_r h9]
    unfold vWr
    rcases (show i % 5 = 0 ∨ i % 5 = 1 ∨ i % 5 = 2 ∨ i % 5 = 3 ∨ i % 5 = 4 by omega) with e | e | e | e | e
    · rw [upd_no (by omega), rl_no _ _ _ _ _ (fun k hk => ⟨by omega, by omega, by omega⟩), hno _ (by omega) (fun k hk => ⟨by omega, by omega, by omega⟩) (by omega) (by omega) (by omega), sm_r h9]
    · by_cases h2 : i = 5 * r + 1
      · rw [h2, upd_at, rl_no _ _ _ _ _ (fun k hk => ⟨by omega, by omega, by omega⟩), w10, ← Nat.add_assoc, whF_mk hr, hca, o2, Nat.add_assoc, sm_r (by omega)]
      · rw [upd_no h2, rl_no _ _ _ _ _ (fun k hk => ⟨by omega, by omega, by omega⟩), hno _ (by omega) (fun k hk => ⟨by omega, by omega, by omega⟩) (by omega) (by omega) (by omega), sm_r h9]
    · have e2 : i = 5 * (i / 5) + 2 := by omega
      rw [upd_no (by omega), e2, (rl_at _ _ _ 6 (i / 5) (by omega)).1, w11, ← Nat.add_assoc, (whF_234 (by omega)).1, hra, Nat.add_assoc, sm_r (by omega)]
    · have e2 : i = 5 * (i / 5) + 3 := by omega
      rw [upd_no (by omega), e2, (rl_at _ _ _ 6 (i / 5) (by omega)).2.1, w9, ← Nat.add_assoc, (whF_234 (by omega)).2.1, hun, Nat.add_assoc, sm_r (by omega), hb_bit]
      rfl
    · have e2 : i = 5 * (i / 5) + 4 := by omega
      have hsub : pHB (vBr fq fr fb r m 1) (nI (i / 5)) = true → pHB (vBr fq fr fb r m 0) (nI (i / 5)) = true := by
        rw [← (jun h hr m).1, ← (jhe h hr m).1]
        unfold pUn
        rw [hb_and, Bool.and_eq_true]
        exact fun q => q.1
      rw [upd_no (by omega), e2, (rl_at _ _ _ 6 (i / 5) (by omega)).2.2, w9, w5_he, ← Nat.add_assoc, (whF_234 (by omega)).2.2, hun, hhe, Nat.add_assoc, sm_r (by omega), hb_bit, hb_bit, bsub _ _ hsub]
      rfl
  · rw [sm_b h9, hno _ (by omega) (fun k hk => ⟨by omega, by omega, by omega⟩) (by omega) (by omega) (by omega), sm_b h9]
  · rw [sm_0, hno _ (by omega) (fun k hk => ⟨by omega, by omega, by omega⟩) (by omega) (by omega) (by omega), sm_0]
  · rw [sm_1]
    unfold vWt
    by_cases h2 : o = m
    · rw [h2, upd_no (by omega), upd_at, whF_m1 hr, sm_1]
    · rw [upd_no (by omega), upd_no (by omega), hno _ (by omega) (fun k hk => ⟨by omega, by omega, by omega⟩) (by omega) (by omega) (by omega), sm_1]
  · rw [sm_2]
    unfold vWt
    by_cases h2 : o = m
    · rw [h2, upd_at, upd_no (by omega), w9, whF_m2 hr, hun, o1, sm_2]
    · rw [upd_no (by omega), upd_no (by omega), hno _ (by omega) (fun k hk => ⟨by omega, by omega, by omega⟩) (by omega) (by omega) (by omega), sm_2]
  · rw [sk_n o hk, hno _ (by omega) (fun k hk => ⟨by omega, by omega, by omega⟩) (by omega) (by omega) (by omega), sk_n o hk]
theorem JM.wh (h : JM B S fq ft fr fb tn) {r m : Nat} (hr : r < 6) (hm : m < 20) (hB : B + 1 < 2 ^ 31) (O : Nat → Nat → Int32) : JM (B + 1) (pRem S (pFor O S r m) r m) (vWq fq fr fb r m) (vWt fq ft fr fb r m) (vWr fq fr fb r m) fb tn := by
  have hR : RS S ((fun _ : Nat => stM fq ft fr fb tn) 2) := h.2.1
  have h1 := SI.wh (m := m) hR h.1 hr hB O
  refine ⟨h1, (RS.wh hR h.1 hr hm O).cong h1 (smu_w h hr hm), fun i hi => ?_, h.2.2.2⟩
  unfold vWt
  rw [upd_no (by omega), upd_no (by omega)]
  exact h.2.2.1 i hi
theorem jwh (h : JM B S fq ft fr fb tn) {r m : Nat} (hr : r < 6) (hm : m < 20) : pBC (pUn S r) = pBC (vW5 fq fr fb r m 9) ∧ x6 (vBr (vW2 fq r m) fr fb r m 1) ∧ x6 (vBr (vW3 fq fr fb r m) fr fb r m 2) := by
  refine ⟨by rw [w5_9, (jun h hr m).1], ?_, ?_⟩
  · rw [vBr_c (fun i hi => w2_lo fq r m (by omega)) r m 1]
    exact jx1 h hr m
  · rw [vBr_c (fun i hi => w3_lo fq fr fb r m (by omega)) r m 2]
    exact jx2 h hr hm
end JMW
/-- the history behind a call -/
theorem hs_undo {o n : Nat} (ho : o < 6) (hn : n ≤ 6) : (hPo o n + (hPn n - 1)) % 6 = hPi o n ∧ hPo o n < 6 ∧ hPn n ≤ 6 ∧ 0 < hPn n := by
  unfold hPo hPn hPi
  by_cases h : n = 6
  · subst h
    rw [if_pos rfl, if_pos rfl, if_pos rfl]
    omega
  · rw [if_neg h, if_neg h, if_neg h]
    omega
/-- what the law's numbers say of a call, and what they become -/
def dV (fq ft fr fb : Nat → Int32) (tn : Nat → Nat) (kd a e tu : Nat) : Int32 := match kd with
  | 0 => if vIl tn a tu 20 = true then nI (uMy tu) else (-103)
  | 1 => if vWy fq fr tn a e = nI 0 then pBC ((vW5 fq fr fb a e) 9) else (-103)
  | 2 => fr (5 * a)
  | 3 => fq 1
  | 4 => (vD4q fq) 0
  | 5 => pBC ((vD5q fq a e) 2)
  | 6 => iShr ((vD6b fb a e) a) (nI e) &&& nI 1
  | 7 => fq (3 + a)
  | _ => nI (uMy (tn a))
def dQ (fq ft fr fb : Nat → Int32) (tn : Nat → Nat) (kd a e tu : Nat) : Nat → Int32 := match kd with
  | 1 => if vWy fq fr tn a e = nI 0 then vWq fq fr fb a e else fq
  | 3 => vD3q fq a
  | 4 => vD4q fq
  | 5 => vD5q fq a e
  | 7 => vD7q fq a e
  | _ => fq
def dT (fq ft fr fb : Nat → Int32) (tn : Nat → Nat) (kd a e tu : Nat) : Nat → Int32 := match kd with
  | 0 => vD0t ft tn a tu
  | 1 => if vWy fq fr tn a e = nI 0 then vWt fq ft fr fb a e else ft
  | 8 => vD8t ft a
  | _ => ft
def dR (fq ft fr fb : Nat → Int32) (tn : Nat → Nat) (kd a e tu : Nat) : Nat → Int32 := match kd with
  | 1 => if vWy fq fr tn a e = nI 0 then vWr fq fr fb a e else fr
  | 2 => vD2r fq fr a
  | 4 => vD4r (vD4q fq) fr 6
  | _ => fr
def dB (fq ft fr fb : Nat → Int32) (tn : Nat → Nat) (kd a e tu : Nat) : Nat → Int32 := match kd with
  | 6 => vD6b fb a e
  | _ => fb
def dN (tn : Nat → Nat) (kd a tu : Nat) : Nat → Nat := match kd with
  | 0 => if vIl tn a tu 20 = true then tnU tn a tu else tn
  | 8 => tnU tn a 0
  | _ => tn
/-- what the law gives its calls -/
def okA (kd a e : Nat) : Prop := kd < 9 ∧ a < 20 ∧ e < 20 ∧ (kd = 1 → a < 6) ∧ (kd = 2 → a < 6) ∧ (kd = 3 → a < 7) ∧ (kd = 5 → a < 3) ∧ (kd = 6 → a < 3) ∧ (kd = 7 → a < 2 ∧ (a = 0 → e < 3) ∧ (a = 1 → 1 ≤ e ∧ e < 10))
