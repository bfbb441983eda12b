/-! a whistle keeps school and numbers together; what the law's numbers become, by kind of call -/
section JMW
variable {B : Nat} {S : Nat → Nat → Int32} {fq ft fr fb : Nat → Int32} {tn : Nat → Nat}
theorem x6_v {x : Int32} (h : x6 x) : x = nI (nOf x) ∧ nOf x < 64 := by
  obtain ⟨n, hn, rfl⟩ := h
  rw [nOf_n (by omega)]
  exact ⟨rfl, hn⟩
theorem q_at6 {f : Nat → Int32} {j : Nat} (h : 5 < j) (h2 : j < 12) (a b c d e g : Int32) : upd (upd (upd (upd (upd (upd f 6 a) 7 b) 8 c) 9 d) 10 e) 11 g j = if j = 6 then a else if j = 7 then b else if j = 8 then c else if j = 9 then d else if j = 10 then e else g := by
  rcases (show j = 6 ∨ j = 7 ∨ j = 8 ∨ j = 9 ∨ j = 10 ∨ j = 11 by omega) with rfl | rfl | rfl | rfl | rfl | rfl <;> rfl
theorem smu_w (h : JM B S fq ft fr fb tn) {r m : Nat} (hr : r < 6) (hm : m < 20) : ∀ j : Nat, j < 267 → stM (vWq fq fr fb r m) (vWt fq ft fr fb r m) (vWr fq fr fb r m) fb tn j = mWhF (fun _ => stM fq ft fr fb tn) r m j := by
  have hR : RS S ((fun _ : Nat => stM fq ft fr fb tn) 2) := h.2.1
  have hun : mKn (fun _ => stM fq ft fr fb tn) r 6 = vBr fq fr fb r m 1 := (un_eq (Y := fun _ => stM fq ft fr fb tn) hR h.1 hr).1.symm.trans (jun h hr m).1
  have hhe : mHe (fun _ => stM fq ft fr fb tn) r 6 = vBr fq fr fb r m 0 := (he_eq (Y := fun _ => stM fq ft fr fb tn) hR h.1 hr).1.symm.trans (jhe h hr m).1
  have hca : mCa (fun _ => stM fq ft fr fb tn) r m 3 = vBr fq fr fb r m 2 := (ca_eq (Y := fun _ => stM fq ft fr fb tn) hR h.1 hr hm).1.symm.trans (jca h hr hm).1
  have hra : mRa (fun _ => stM fq ft fr fb tn) r m = vBr fq fr fb r m 3 := (ra_eq (Y := fun _ => stM fq ft fr fb tn) hR h.1 hr).1.symm.trans (jra h hr).1
  have hfl : mF2 (fun _ => stM fq ft fr fb tn) (r / 2) 27 = vFl fq (r / 2) := (fl_eq (Y := fun _ => stM fq ft fr fb tn) hR h.1 hr).1.symm.trans (jfl h hr).1
  have x1 := x6_v (jx1 h hr m)
  have x2 := x6_v (jx2 h hr hm)
  have o1 := (on_eq x1.1 x1.2).1
  have o2 := (on_eq x2.1 x2.2).1
  obtain ⟨w6, w7, w8⟩ := w5_678 fq fr fb r m
  have w9 := w5_9 fq fr fb r m
  have w10 := w5_10 fq fr fb r m
  have w11 := w5_11 fq fr fb r m
  have hno : ∀ j : Nat, (j < 5 ∨ 11 < j) → (∀ k : Nat, k < 6 → ¬ j = 14 + 5 * k + 2 ∧ ¬ j = 14 + 5 * k + 3 ∧ ¬ j = 14 + 5 * k + 4) → ¬ j = 14 + 5 * r + 1 → ¬ j = 47 + 11 * m + 1 → ¬ j = 47 + 11 * m + 2 → mWhF (fun _ => stM fq ft fr fb tn) r m j = stM fq ft fr fb tn j := fun j a b c d e => whF_no (Y := fun _ => stM fq ft fr fb tn) a b c d e
  refine sm_cases (fun j hj => ?_) (fun j b c => ?_) (fun i h9 => ?_) (fun i' h9 => ?_) (fun o ho => ⟨?_, ?_, ?_, fun k hk => ?_⟩)
  · rw [sm_q hj]
    unfold vWq
    by_cases h5 : j = 5
    · rw [h5, upd_at, w5_lo _ _ _ _ _ (by decide), whF_5 hr, sm_q (by decide)]
    · rw [upd_no h5]
      by_cases hlo : j < 5
      · rw [w5_lo _ _ _ _ _ (by omega), hno j (Or.inl hlo) (fun k hk => ⟨by omega, by omega, by omega⟩) (by omega) (by omega) (by omega), sm_q hj]
      · rw [whF_late (by omega) hj]
        unfold mWh0
        rw [q_at6 (by omega) hj, hfl, hun, hca, hra]
        rcases (show j = 6 ∨ j = 7 ∨ j = 8 ∨ j = 9 ∨ j = 10 ∨ j = 11 by omega) with rfl | rfl | rfl | rfl | rfl | rfl
        · exact w6
        · exact w7
        · exact w8
        · exact w9
        · exact w10
        · exact w11
  · rw [sm_s b c, hno j (by omega) (fun k hk => ⟨by omega, by omega, by omega⟩) (by omega) (by omega) (by omega), sm_s b c]
  · rw [sm_r h9]
    unfold vWr
    rcases (show i % 5 = 0 ∨ i % 5 = 1 ∨ i % 5 = 2 ∨ i % 5 = 3 ∨ i % 5 = 4 by omega) with e | e | e | e | e
    · rw [upd_no (by omega), rl_no _ _ _ _ _ (fun k hk => ⟨by omega, by omega, by omega⟩), hno _ (by omega) (fun k hk => ⟨by omega, by omega, by omega⟩) (by omega) (by omega) (by omega), sm_r h9]
    · by_cases h2 : i = 5 * r + 1
      · rw [h2, upd_at, rl_no _ _ _ _ _ (fun k hk => ⟨by omega, by omega, by omega⟩), w10, ← Nat.add_assoc, whF_mk hr, hca, o2, Nat.add_assoc, sm_r (by omega)]
      · rw [upd_no h2, rl_no _ _ _ _ _ (fun k hk => ⟨by omega, by omega, by omega⟩), hno _ (by omega) (fun k hk => ⟨by omega, by omega, by omega⟩) (by omega) (by omega) (by omega), sm_r h9]
    · have e2 : i = 5 * (i / 5) + 2 := by omega
      rw [upd_no (by omega), e2, (rl_at _ _ _ 6 (i / 5) (by omega)).1, w11, ← Nat.add_assoc, (whF_234 (by omega)).1, hra, Nat.add_assoc, sm_r (by omega)]
    · have e2 : i = 5 * (i / 5) + 3 := by omega
      rw [upd_no (by omega), e2, (rl_at _ _ _ 6 (i / 5) (by omega)).2.1, w9, ← Nat.add_assoc, (whF_234 (by omega)).2.1, hun, Nat.add_assoc, sm_r (by omega), hb_bit]
      rfl
    · have e2 : i = 5 * (i / 5) + 4 := by omega
      have hsub : pHB (vBr fq fr fb r m 1) (nI (i / 5)) = true → pHB (vBr fq fr fb r m 0) (nI (i / 5)) = true := by
        rw [← (jun h hr m).1, ← (jhe h hr m).1]
        unfold pUn
        rw [hb_and, Bool.and_eq_true]
        exact fun q => q.1
      rw [upd_no (by omega), e2, (rl_at _ _ _ 6 (i / 5) (by omega)).2.2, w9, w5_he, ← Nat.add_assoc, (whF_234 (by omega)).2.2, hun, hhe, Nat.add_assoc, sm_r (by omega), hb_bit, hb_bit, bsub _ _ hsub]
      rfl
  · rw [sm_b h9, hno _ (by omega) (fun k hk => ⟨by omega, by omega, by omega⟩) (by omega) (by omega) (by omega), sm_b h9]
  · rw [sm_0, hno _ (by omega) (fun k hk => ⟨by omega, by omega, by omega⟩) (by omega) (by omega) (by omega), sm_0]
  · rw [sm_1]
    unfold vWt
    by_cases h2 : o = m
    · rw [h2, upd_no (by omega), upd_at, whF_m1 hr, sm_1]
    · rw [upd_no (by omega), upd_no (by omega), hno _ (by omega) (fun k hk => ⟨by omega, by omega, by omega⟩) (by omega) (by omega) (by omega), sm_1]
  · rw [sm_2]
    unfold vWt
    by_cases h2 : o = m
    · rw [h2, upd_at, upd_no (by omega), w9, whF_m2 hr, hun, o1, sm_2]
    · rw [upd_no (by omega), upd_no (by omega), hno _ (by omega) (fun k hk => ⟨by omega, by omega, by omega⟩) (by omega) (by omega) (by omega), sm_2]
  · rw [sk_n o hk, hno _ (by omega) (fun k hk => ⟨by omega, by omega, by omega⟩) (by omega) (by omega) (by omega), sk_n o hk]
theorem JM.wh (h : JM B S fq ft fr fb tn) {r m : Nat} (hr : r < 6) (hm : m < 20) (hB : B + 1 < 2 ^ 31) (O : Nat → Nat → Int32) : JM (B + 1) (pRem S (pFor O S r m) r m) (vWq fq fr fb r m) (vWt fq ft fr fb r m) (vWr fq fr fb r m) fb tn := by
  have hR : RS S ((fun _ : Nat => stM fq ft fr fb tn) 2) := h.2.1
  have h1 := SI.wh (Y := fun _ => stM fq ft fr fb tn) (m := m) hR h.1 hr hB O
  refine ⟨h1, (RS.wh (Y := fun _ => stM fq ft fr fb tn) hR h.1 hr hm O).cong h1 (smu_w h hr hm), fun i hi => ?_, h.2.2.2⟩
  unfold vWt
  rw [upd_no (by omega), upd_no (by omega)]
  exact h.2.2.1 i hi
theorem jwh (h : JM B S fq ft fr fb tn) {r m : Nat} (hr : r < 6) (hm : m < 20) : pBC (pUn S r) = pBC (vW5 fq fr fb r m 9) ∧ x6 (vBr (vW2 fq r m) fr fb r m 1) ∧ x6 (vBr (vW3 fq fr fb r m) fr fb r m 2) := by
  refine ⟨by rw [w5_9, (jun h hr m).1], ?_, ?_⟩
  · rw [vBr_c (fun i hi => w2_lo fq r m (by omega)) r m 1]
    exact jx1 h hr m
  · rw [vBr_c (fun i hi => w3_lo fq fr fb r m (by omega)) r m 2]
    exact jx2 h hr hm
end JMW
/-- the history behind a call -/
theorem hs_undo {o n : Nat} (ho : o < 6) (hn : n ≤ 6) : (hPo o n + (hPn n - 1)) % 6 = hPi o n ∧ hPo o n < 6 ∧ hPn n ≤ 6 ∧ 0 < hPn n := by
  unfold hPo hPn hPi
  by_cases h : n = 6
  · subst h
    rw [if_pos rfl, if_pos rfl, if_pos rfl]
    omega
  · rw [if_neg h, if_neg h, if_neg h]
    omega
/-- what the law's numbers say of a call, and what they become -/
def dV (fq ft fr fb : Nat → Int32) (tn : Nat → Nat) (kd a e tu : Nat) : Int32 := match kd with
  | 0 => if vIl tn a tu 20 = true then nI (uMy tu) else (-103)
  | 1 => if vWy fq fr tn a e = nI 0 then pBC ((vW5 fq fr fb a e) 9) else (-103)
  | 2 => fr (5 * a)
  | 3 => fq 1
  | 4 => (vD4q fq) 0
  | 5 => pBC ((vD5q fq a e) 2)
  | 6 => iShr ((vD6b fb a e) a) (nI e) &&& nI 1
  | 7 => fq (3 + a)
  | _ => nI (uMy (tn a))
def dQ (fq ft fr fb : Nat → Int32) (tn : Nat → Nat) (kd a e tu : Nat) : Nat → Int32 := match kd with
  | 1 => if vWy fq fr tn a e = nI 0 then vWq fq fr fb a e else fq
  | 3 => vD3q fq a
  | 4 => vD4q fq
  | 5 => vD5q fq a e
  | 7 => vD7q fq a e
  | _ => fq
def dT (fq ft fr fb : Nat → Int32) (tn : Nat → Nat) (kd a e tu : Nat) : Nat → Int32 := match kd with
  | 0 => vD0t ft tn a tu
  | 1 => if vWy fq fr tn a e = nI 0 then vWt fq ft fr fb a e else ft
  | 8 => vD8t ft a
  | _ => ft
def dR (fq ft fr fb : Nat → Int32) (tn : Nat → Nat) (kd a e tu : Nat) : Nat → Int32 := match kd with
  | 1 => if vWy fq fr tn a e = nI 0 then vWr fq fr fb a e else fr
  | 2 => vD2r fq fr a
  | 4 => vD4r (vD4q fq) fr 6
  | _ => fr
def dBb (fq ft fr fb : Nat → Int32) (tn : Nat → Nat) (kd a e tu : Nat) : Nat → Int32 := match kd with
  | 6 => vD6b fb a e
  | _ => fb
def dN (tn : Nat → Nat) (kd a tu : Nat) : Nat → Nat := match kd with
  | 0 => if vIl tn a tu 20 = true then tnU tn a tu else tn
  | 8 => tnU tn a 0
  | _ => tn
/-- what the law gives its calls -/
def okA (kd a e : Nat) : Prop := kd < 9 ∧ a < 20 ∧ e < 20 ∧ (kd = 1 → a < 6) ∧ (kd = 2 → a < 6) ∧ (kd = 3 → a < 7) ∧ (kd = 5 → a < 3) ∧ (kd = 6 → a < 3) ∧ (kd = 7 → a < 2 ∧ (a = 0 → e < 3) ∧ (a = 1 → 1 ≤ e ∧ e < 10))
