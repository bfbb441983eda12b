/-! doubles: what is made of ints, quotients, doublings is no NaN, and which bits it has -/
def fdGood (d : FP.Core.Datum) : Prop := match d with
  | .nan => False
  | .inf _ => True
  | .fin _ c q => c < 9007199254740992 ∧ q ≤ 971
theorem fd_rr (s : Bool) (a b : Nat) (e : Int) : fdGood (FP.Core.roundRatio FP.Core.b64 s a b e) := by
  have hb : ∀ (c : Nat) (q : Int), c < 9007199254740992 → fdGood (FP.Core.bound FP.Core.b64 s c q) := by
    intro c q h
    unfold FP.Core.bound
    split
    · rename_i hq
      exact ⟨h, hq⟩
    · trivial
  unfold FP.Core.roundRatio
  split
  · exact ⟨by decide, by decide⟩
  · unfold FP.Core.roundAt FP.Core.settle
    split
    · rename_i h
      exact hb _ _ h
    · exact hb _ _ (by decide)
theorem fd_enc_fin {s : Bool} {c : Nat} {q : Int} : FP.Core.encode FP.Core.b64 (.fin s c q) = if c < 4503599627370496 then (s.toNat * 2048 + 0) * 4503599627370496 + c else (s.toNat * 2048 + ((q - (-1074)).toNat + 1)) * 4503599627370496 + (c - 4503599627370496) := rfl
theorem fd_enc_inf {s : Bool} : FP.Core.encode FP.Core.b64 (.inf s) = (s.toNat * 2048 + 2047) * 4503599627370496 + 0 := rfl
theorem fd_le {d : FP.Core.Datum} (h : fdGood d) : FP.Core.encode FP.Core.b64 d % 9223372036854775808 ≤ 9218868437227405312 ∧ FP.Core.encode FP.Core.b64 d < 18446744073709551616 := by
  have hs : ∀ s : Bool, s.toNat ≤ 1 := by intro s; cases s <;> decide
  match d, h with
  | .inf s, _ =>
    rw [fd_enc_inf]
    have := hs s
    omega
  | .fin s c q, h =>
    obtain ⟨h1, h2⟩ := h
    rw [fd_enc_fin]
    have := hs s
    split
    · omega
    · have h3 : (q - (-1074)).toNat ≤ 2045 := by omega
      omega
theorem fd_n64 {n : Nat} (h : n % 9223372036854775808 ≤ 9218868437227405312) (h2 : n < 18446744073709551616) : vf_n64 (UInt64.ofNat n) := by
  unfold vf_n64
  rw [UInt64.le_iff_toNat_le, UInt64.toNat_and, UInt64.toNat_ofNat_of_lt' (by exact h2)]
  show n &&& 9223372036854775807 ≤ 9218868437227405312
  have h3 : n &&& (2 ^ 63 - 1) = n % 2 ^ 63 := Nat.and_two_pow_sub_one_eq_mod n 63
  have h4 : n &&& 9223372036854775807 = n % 9223372036854775808 := h3
  rw [h4]
  exact h
