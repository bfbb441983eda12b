/-! doubles: what is made of ints, quotients, doublings is no NaN, and which bits it has -/
def fdGood (d : FP.Core.Datum) : Prop := match d with
  | .nan => False
  | .inf _ => True
  | .fin _ c q => c < 9007199254740992 ∧ q ≤ 971
theorem fd_rr (s : Bool) (a b : Nat) (e : Int) : fdGood (FP.Core.roundRatio FP.Core.b64 s a b e) := by
  have hb : ∀ (c : Nat) (q : Int), c < 9007199254740992 → fdGood (FP.Core.bound FP.Core.b64 s c q) := by
    intro c q h
    unfold FP.Core.bound
    split
    · rename_i hq
      exact ⟨h, hq⟩
    · trivial
  unfold FP.Core.roundRatio
  split
  · exact ⟨by decide, by decide⟩
  · unfold FP.Core.roundAt FP.Core.settle
    split
    · rename_i h
      exact hb _ _ h
    · exact hb _ _ (by decide)
theorem fd_enc_fin {s : Bool} {c : Nat} {q : Int} : FP.Core.encode FP.Core.b64 (.fin s c q) = if c < 4503599627370496 then (s.toNat * 2048 + 0) * 4503599627370496 + c else (s.toNat * 2048 + ((q - (-1074)).toNat + 1)) * 4503599627370496 + (c - 4503599627370496) := rfl
theorem fd_enc_inf {s : Bool} : FP.Core.encode FP.Core.b64 (.inf s) = (s.toNat * 2048 + 2047) * 4503599627370496 + 0 := rfl
theorem fd_le {d : FP.Core.Datum} (h : fdGood d) : FP.Core.encode FP.Core.b64 d % 9223372036854775808 ≤ 9218868437227405312 ∧ FP.Core.encode FP.Core.b64 d < 18446744073709551616 := by
  have hs : ∀ s : Bool, s.toNat ≤ 1 := by intro s; cases s <;> decide
  match d, h with
  | .inf s, _ =>
    rw [fd_enc_inf]
    have := hs s
    omega
  | .fin s c q, h =>
    obtain ⟨h1, h2⟩ := h
    rw [fd_enc_fin]
    have := hs s
    split
    · omega
    · have h3 : (q - (-1074)).toNat ≤ 2045 := by omega
      omega
theorem fd_n64 {n : Nat} (h : n % 9223372036854775808 ≤ 9218868437227405312) (h2 : n < 18446744073709551616) : vf_n64 (UInt64.ofNat n) := by
  unfold vf_n64
  rw [UInt64.le_iff_toNat_le, UInt64.toNat_and, UInt64.toNat_ofNat_of_lt' (by exact h2)]
  show n &&& 9223372036854775807 ≤ 9218868437227405312
  have h3 : n &&& (2 ^ 63 - 1) = n % 2 ^ 63 := Nat.and_two_pow_sub_one_eq_mod n 63
  have h4 : n &&& 9223372036854775807 = n % 9223372036854775808 := h3
  rw [h4]
  exact h
theorem fd_lead1 {n : Nat} (h : 0 < n) : FP.Core.leading n 1 = (n.log2 : Int) := by
  unfold FP.Core.leading
  have h1 : Nat.log2 1 = 0 := by decide
  have h2 : (n.log2 : Int) - ((Nat.log2 1 : Nat) : Int) = (n.log2 : Int) := by rw [h1]; omega
  have h3 : (-(n.log2 : Int)).toNat = 0 := by omega
  have h4 : ((n.log2 : Int)).toNat = n.log2 := by omega
  have h5 : 2 ^ n.log2 ≤ n := Nat.log2_self_le (by omega)
  simp only [h2, h3, h4]
  rw [if_pos (by omega)]
theorem fd_near {c D : Nat} (hD : 0 < D) : FP.Core.nearest (c * D) D = c := by
  unfold FP.Core.nearest
  rw [Nat.mul_mod_left, if_pos (by omega), Nat.mul_div_cancel c hD]
/-- what is exact is not rounded -/
theorem fd_exact {s : Bool} {A B c : Nat} {e q : Int} (hA : 0 < A) (hB : 0 < B) (hl : FP.Core.leading A B + e = q + 52) (h : A * 2 ^ (e - q).toNat = c * (B * 2 ^ (q - e).toNat)) (hc : c < 9007199254740992) (h1 : -1074 ≤ q) (h2 : q ≤ 971) : FP.Core.roundRatio FP.Core.b64 s A B e = .fin s c q := by
  have hq : FP.Core.quantum FP.Core.b64 A B e = q := by
    show max (-1074 : Int) (FP.Core.leading A B + e - (53 - 1)) = q
    rw [hl]
    omega
  have hD : 0 < B * 2 ^ (q - e).toNat := Nat.mul_pos hB (Nat.two_pow_pos _)
  unfold FP.Core.roundRatio
  rw [if_neg (by omega), hq]
  unfold FP.Core.roundAt FP.Core.unitsNum FP.Core.unitsDen
  rw [h, fd_near hD]
  unfold FP.Core.settle
  rw [if_pos (show c < 2 ^ FP.Core.b64.p from hc)]
  unfold FP.Core.bound
  rw [if_pos (show q ≤ FP.Core.b64.qmax from h2)]
theorem fd_decN (n : Nat) : FP.Core.decode FP.Core.b64 n = if n / 4503599627370496 % 2048 = 2047 then (if n % 4503599627370496 = 0 then .inf (n / 4503599627370496 / 2048 % 2 == 1) else .nan) else if n / 4503599627370496 % 2048 = 0 then .fin (n / 4503599627370496 / 2048 % 2 == 1) (n % 4503599627370496) (-1074) else .fin (n / 4503599627370496 / 2048 % 2 == 1) (4503599627370496 + n % 4503599627370496) (-1074 + (((n / 4503599627370496 % 2048 : Nat) : Int) - 1)) := rfl
/-- a normal double's bits -/
def dB (s : Bool) (c : Nat) (q : Int) : Nat := (s.toNat * 2048 + ((q + 1074).toNat + 1)) * 4503599627370496 + (c - 4503599627370496)
theorem fd_enc {s : Bool} {c : Nat} {q : Int} (h1 : 4503599627370496 ≤ c) : FP.Core.encode FP.Core.b64 (.fin s c q) = dB s c q := by
  rw [fd_enc_fin, if_neg (by omega)]
  have h : (q - (-1074)).toNat = (q + 1074).toNat := by omega
  rw [h]
  rfl
theorem fd_lt {s : Bool} {c : Nat} {q : Int} (h2 : c < 9007199254740992) (hq : q ≤ 971) : dB s c q < 18446744073709551616 := by
  unfold dB
  have : s.toNat ≤ 1 := by cases s <;> decide
  omega
theorem fd_dec {s : Bool} {c : Nat} {q : Int} (h1 : 4503599627370496 ≤ c) (h2 : c < 9007199254740992) (h3 : -1074 ≤ q) (h4 : q ≤ 971) : FP.Core.decode FP.Core.b64 (dB s c q) = .fin s c q := by
  rw [fd_decN]
  unfold dB
  have hs : s.toNat ≤ 1 := by cases s <;> decide
  have e1 : ((s.toNat * 2048 + ((q + 1074).toNat + 1)) * 4503599627370496 + (c - 4503599627370496)) / 4503599627370496 = s.toNat * 2048 + ((q + 1074).toNat + 1) := by omega
  have e2 : ((s.toNat * 2048 + ((q + 1074).toNat + 1)) * 4503599627370496 + (c - 4503599627370496)) % 4503599627370496 = c - 4503599627370496 := by omega
  have e7 : (q + 1074).toNat + 1 < 2048 := by omega
  have e3 : (s.toNat * 2048 + ((q + 1074).toNat + 1)) % 2048 = (q + 1074).toNat + 1 := by
    rw [Nat.add_comm, Nat.add_mul_mod_self_right]
    exact Nat.mod_eq_of_lt e7
  have e4 : (s.toNat * 2048 + ((q + 1074).toNat + 1)) / 2048 = s.toNat := by
    rw [Nat.add_comm, Nat.add_mul_div_right _ _ (by decide), Nat.div_eq_of_lt e7, Nat.zero_add]
  rw [e1, e2, e3, e4, if_neg (by omega), if_neg (by omega)]
  have e5 : 4503599627370496 + (c - 4503599627370496) = c := by omega
  have e6 : (-1074 : Int) + ((((q + 1074).toNat + 1 : Nat) : Int) - 1) = q := by omega
  rw [e5, e6]
  cases s <;> rfl
def dU (s : Bool) (c : Nat) (q : Int) : UInt64 := UInt64.ofNat (dB s c q)
theorem dU_n {s : Bool} {c : Nat} {q : Int} (h2 : c < 9007199254740992) (hq : q ≤ 971) : (dU s c q).toNat = dB s c q := UInt64.toNat_ofNat_of_lt' (fd_lt h2 hq)
theorem dU_dec {s : Bool} {c : Nat} {q : Int} (h1 : 4503599627370496 ≤ c) (h2 : c < 9007199254740992) (h3 : -1074 ≤ q) (h4 : q ≤ 971) : FP.Core.decode FP.Core.b64 (dU s c q).toNat = .fin s c q := by
  rw [dU_n h2 h4]
  exact fd_dec h1 h2 h3 h4
/-- an int as a double -/
def iC (v : Int32) : Nat := v.toInt.natAbs * 2 ^ (52 - v.toInt.natAbs.log2)
def iQ (v : Int32) : Int := (v.toInt.natAbs.log2 : Int) - 52
theorem i2d_b {v : Int32} (hv : ¬ v = 0) : 4503599627370496 ≤ iC v ∧ iC v < 9007199254740992 ∧ v.toInt.natAbs.log2 ≤ 31 ∧ 0 < v.toInt.natAbs := by
  have h0 : 0 < v.toInt.natAbs := by
    rcases Nat.eq_zero_or_pos v.toInt.natAbs with h | h
    · exfalso
      refine hv (Int32.toInt_inj.mp ?_)
      have h1 : v.toInt = 0 := by omega
      rw [h1]
      rfl
    · exact h
  have h1 := v.toInt_lt
  have h2 := v.le_toInt
  have h3 : 2 ^ v.toInt.natAbs.log2 ≤ v.toInt.natAbs := Nat.log2_self_le (by omega)
  have h4 : v.toInt.natAbs < 2 ^ (v.toInt.natAbs.log2 + 1) := Nat.lt_log2_self
  have h5 : v.toInt.natAbs.log2 ≤ 31 := by
    refine Nat.le_of_not_lt (fun q => ?_)
    have h6 : 2 ^ 32 ≤ 2 ^ v.toInt.natAbs.log2 := Nat.pow_le_pow_right (by decide) q
    have h7 : v.toInt.natAbs ≤ 2 ^ 31 := by omega
    omega
  have h6 : 2 ^ v.toInt.natAbs.log2 * 2 ^ (52 - v.toInt.natAbs.log2) = 2 ^ 52 := by
    rw [← Nat.pow_add]
    congr 1
    omega
  have h7 : 2 ^ (v.toInt.natAbs.log2 + 1) * 2 ^ (52 - v.toInt.natAbs.log2) = 2 ^ 53 := by
    rw [← Nat.pow_add]
    congr 1
    omega
  refine ⟨?_, ?_, h5, h0⟩
  · have h8 := Nat.mul_le_mul_right (2 ^ (52 - v.toInt.natAbs.log2)) h3
    rw [h6] at h8
    exact h8
  · have h8 := Nat.mul_lt_mul_of_pos_right h4 (Nat.two_pow_pos (52 - v.toInt.natAbs.log2))
    rw [h7] at h8
    exact h8
theorem i2d_U {v : Int32} (hv : ¬ v = 0) : FP.i2d v = dU (decide (v.toInt < 0)) (iC v) (iQ v) := by
  obtain ⟨h1, h2, h3, h4⟩ := i2d_b hv
  have h5 : FP.Core.roundRatio FP.Core.b64 (decide (v.toInt < 0)) v.toInt.natAbs 1 0 = .fin (decide (v.toInt < 0)) (iC v) (iQ v) := by
    unfold iQ
    refine fd_exact h4 (by decide) (by rw [fd_lead1 h4]; omega) ?_ h2 (by omega) (by omega)
    have e1 : (0 - ((v.toInt.natAbs.log2 : Int) - 52)).toNat = 52 - v.toInt.natAbs.log2 := by omega
    have e2 : ((v.toInt.natAbs.log2 : Int) - 52 - 0).toNat = 0 := by omega
    rw [e1, e2]
    unfold iC
    omega
  show UInt64.ofNat (FP.Core.encode FP.Core.b64 (FP.Core.roundRatio FP.Core.b64 (decide (v.toInt < 0)) v.toInt.natAbs 1 0)) = _
  rw [h5, fd_enc h1]
  rfl
theorem i2d_fin (v : Int32) : ∃ (s : Bool) (c : Nat) (q : Int), FP.Core.decode FP.Core.b64 (FP.i2d v).toNat = .fin s c q ∧ (¬ v = 0 → 0 < c) := by
  by_cases hv : v = 0
  · subst hv
    exact ⟨false, 0, -1074, by decide +kernel, fun h => absurd rfl h⟩
  · obtain ⟨h1, h2, h3, h4⟩ := i2d_b hv
    refine ⟨decide (v.toInt < 0), iC v, iQ v, ?_, fun _ => by omega⟩
    rw [i2d_U hv]
    exact dU_dec h1 h2 (by unfold iQ; omega) (by unfold iQ; omega)
/-- a quotient of ints is a number -/
theorem ddiv_n64 (v w : Int32) (hw : ¬ w = 0) : vf_n64 (FP.ddiv (FP.i2d v) (FP.i2d w)) := by
  obtain ⟨s, c, q, h1, -⟩ := i2d_fin v
  obtain ⟨t, d, r, h2, h3⟩ := i2d_fin w
  have h4 := h3 hw
  have h5 : FP.Core.div FP.Core.b64 (FP.i2d v).toNat (FP.i2d w).toNat = FP.Core.encode FP.Core.b64 (FP.Core.roundRatio FP.Core.b64 (s != t) c d (q - r)) := by
    unfold FP.Core.div
    rw [h1, h2]
    show FP.Core.encode FP.Core.b64 (if d = 0 then _ else _) = _
    rw [if_neg (by omega)]
  have h6 := fd_le (fd_rr (s != t) c d (q - r))
  show vf_n64 (UInt64.ofNat (FP.Core.div FP.Core.b64 (FP.i2d v).toNat (FP.i2d w).toNat))
  rw [h5]
  exact fd_n64 h6.1 h6.2
