/-! the bits of a double, found by doubling (WhistleTunes.bitsOfShare; printed by wip/whole/s47.py) -/
theorem log2_of {n k : Nat} (h1 : 2 ^ k ≤ n) (h2 : n < 2 ^ (k + 1)) : n.log2 = k := by
  have h0 : n ≠ 0 := by
    have := Nat.two_pow_pos k
    omega
  have h3 := (Nat.le_log2 h0).mpr h1
  have h4 := (Nat.log2_lt h0).mpr h2
  omega
theorem fp_d0 : FP.Core.decode FP.Core.b64 FP.dconst0.toNat = .fin false 0 (-1074) := by decide +kernel
theorem fp_d1 : FP.Core.decode FP.Core.b64 FP.dconst1.toNat = .fin false 4503599627370496 (-52) := by decide +kernel
theorem fp_d2 : FP.Core.decode FP.Core.b64 (4611686018427387904 : UInt64).toNat = .fin false 4503599627370496 (-51) := by decide +kernel
theorem fp_d52 : FP.Core.decode FP.Core.b64 (4841369599423283200 : UInt64).toNat = .fin false 4503599627370496 0 := by decide +kernel
theorem fp_gt0 {c : Nat} {q : Int} (h1 : 4503599627370496 ≤ c) (h2 : c < 9007199254740992) (h3 : -1074 ≤ q) (h4 : q ≤ 971) : FP.dcmp (dU false c q) FP.dconst0 = some .gt := by
  show FP.Core.order (FP.Core.decode FP.Core.b64 (dU false c q).toNat) (FP.Core.decode FP.Core.b64 FP.dconst0.toNat) = some .gt
  rw [dU_dec h1 h2 h3 h4, fp_d0]
  show some (compare (FP.Core.signed false (FP.Core.inUnits c q (min q (-1074)))) (FP.Core.signed false (FP.Core.inUnits 0 (-1074) (min q (-1074))))) = some .gt
  congr 1
  have hp := Nat.two_pow_pos (q - min q (-1074)).toNat
  have hm : 0 < c * 2 ^ (q - min q (-1074)).toNat := Nat.mul_pos (by omega) hp
  have e1 : FP.Core.signed false (FP.Core.inUnits c q (min q (-1074))) = ((c * 2 ^ (q - min q (-1074)).toNat : Nat) : Int) := rfl
  have e2 : FP.Core.signed false (FP.Core.inUnits 0 (-1074) (min q (-1074))) = 0 := by
    show ((0 * 2 ^ ((-1074 : Int) - min q (-1074)).toNat : Nat) : Int) = 0
    rw [Nat.zero_mul]
    rfl
  rw [e1, e2]
  generalize c * 2 ^ (q - min q (-1074)).toNat = z at hm
  show (if ((z : Nat) : Int) < 0 then Ordering.lt else if ((z : Nat) : Int) = 0 then .eq else .gt) = .gt
  rw [if_neg (by omega), if_neg (by omega)]
/-- less than one -/
theorem fp_lt1 {c : Nat} {q : Int} (h1 : 4503599627370496 ≤ c) (h2 : c < 9007199254740992) (h3 : -1074 ≤ q) (h4 : q < -52) : FP.dcmp (dU false c q) FP.dconst1 = some .lt := by
  show FP.Core.order (FP.Core.decode FP.Core.b64 (dU false c q).toNat) (FP.Core.decode FP.Core.b64 FP.dconst1.toNat) = some .lt
  rw [dU_dec h1 h2 h3 (by omega), fp_d1]
  show some (compare (FP.Core.signed false (FP.Core.inUnits c q (min q (-52)))) (FP.Core.signed false (FP.Core.inUnits 4503599627370496 (-52) (min q (-52))))) = some .lt
  congr 1
  have hq : min q (-52) = q := by omega
  rw [hq]
  have e1 : FP.Core.signed false (FP.Core.inUnits c q q) = ((c * 2 ^ (q - q).toNat : Nat) : Int) := rfl
  have e2 : FP.Core.signed false (FP.Core.inUnits 4503599627370496 (-52) q) = ((4503599627370496 * 2 ^ (-52 - q).toNat : Nat) : Int) := rfl
  have e3 : (q - q).toNat = 0 := by omega
  rw [e1, e2, e3]
  have h5 : 2 ^ 1 ≤ 2 ^ (-52 - q).toNat := Nat.pow_le_pow_right (by decide) (by omega)
  have h6 := Nat.mul_le_mul_left 4503599627370496 h5
  exact if_pos (by omega)
theorem fp_ge1 {c : Nat} (h1 : 4503599627370496 ≤ c) (h2 : c < 9007199254740992) : FP.dcmp (dU false c (-52)) FP.dconst1 = some (if c = 4503599627370496 then .eq else .gt) := by
  show FP.Core.order (FP.Core.decode FP.Core.b64 (dU false c (-52)).toNat) (FP.Core.decode FP.Core.b64 FP.dconst1.toNat) = _
  rw [dU_dec h1 h2 (by decide) (by decide), fp_d1]
  show some (compare ((c * 2 ^ 0 : Nat) : Int) ((4503599627370496 * 2 ^ 0 : Nat) : Int)) = _
  refine congrArg some ?_
  have e1 : ((c * 2 ^ 0 : Nat) : Int) = (c : Int) := by rw [Nat.pow_zero, Nat.mul_one]
  have e2 : ((4503599627370496 * 2 ^ 0 : Nat) : Int) = (4503599627370496 : Int) := by rw [Nat.pow_zero, Nat.mul_one]; rfl
  rw [e1, e2]
  have hz : ∀ (x z : Int), ¬ x < z → compare x z = if x = z then Ordering.eq else .gt := fun x z h => if_neg h
  rw [hz _ _ (by omega)]
  by_cases h : c = 4503599627370496
  · rw [if_pos h, if_pos (by omega)]
  · rw [if_neg h, if_neg (by omega)]
/-- twice as much -/
theorem fp_dbl {c : Nat} {q : Int} (h1 : 4503599627370496 ≤ c) (h2 : c < 9007199254740992) (h3 : -1074 ≤ q) (h4 : q < 971) : FP.dmul (dU false c q) (4611686018427387904 : UInt64) = dU false c (q + 1) := by
  have hr : FP.Core.roundRatio FP.Core.b64 false (c * 4503599627370496) 1 (q + -51) = .fin false c (q + 1) := by
    refine fd_exact (by omega) (by decide) ?_ ?_ h2 (by omega) (by omega)
    · rw [fd_lead1 (by omega), log2_of (k := 104) (by omega) (by omega)]
      omega
    · have e1 : (q + -51 - (q + 1)).toNat = 0 := by omega
      have e2 : (q + 1 - (q + -51)).toNat = 52 := by omega
      rw [e1, e2]
      omega
  show UInt64.ofNat (FP.Core.encode FP.Core.b64 (FP.Core.round FP.Core.b64 (FP.Core.exactProduct (FP.Core.decode FP.Core.b64 (dU false c q).toNat) (FP.Core.decode FP.Core.b64 (4611686018427387904 : UInt64).toNat)))) = _
  rw [dU_dec h1 h2 h3 (by omega), fp_d2]
  show UInt64.ofNat (FP.Core.encode FP.Core.b64 (FP.Core.roundRatio FP.Core.b64 false (c * 4503599627370496) 1 (q + -51))) = _
  rw [hr, fd_enc h1]
  rfl
/-- what is above one, in units of the last place -/
def tU (t : Nat) : UInt64 := if t = 0 then 0 else dU false (t * 2 ^ (52 - t.log2)) ((t.log2 : Int) - 104)
theorem t_b {t : Nat} (h0 : 0 < t) (ht : t < 4503599627370496) : t.log2 ≤ 51 ∧ 4503599627370496 ≤ t * 2 ^ (52 - t.log2) ∧ t * 2 ^ (52 - t.log2) < 9007199254740992 := by
  have h3 : 2 ^ t.log2 ≤ t := Nat.log2_self_le (by omega)
  have h4 : t < 2 ^ (t.log2 + 1) := Nat.lt_log2_self
  have h5 : t.log2 ≤ 51 := by
    refine Nat.le_of_not_lt (fun q => ?_)
    have h6 : 2 ^ 52 ≤ 2 ^ t.log2 := Nat.pow_le_pow_right (by decide) q
    omega
  have h6 : 2 ^ t.log2 * 2 ^ (52 - t.log2) = 2 ^ 52 := by
    rw [← Nat.pow_add]
    congr 1
    omega
  have h7 : 2 ^ (t.log2 + 1) * 2 ^ (52 - t.log2) = 2 ^ 53 := by
    rw [← Nat.pow_add]
    congr 1
    omega
  refine ⟨h5, ?_, ?_⟩
  · have h8 := Nat.mul_le_mul_right (2 ^ (52 - t.log2)) h3
    rw [h6] at h8
    exact h8
  · have h8 := Nat.mul_lt_mul_of_pos_right h4 (Nat.two_pow_pos (52 - t.log2))
    rw [h7] at h8
    exact h8
theorem fp_sub1 {c : Nat} (h1 : 4503599627370496 ≤ c) (h2 : c < 9007199254740992) : FP.dsub (dU false c (-52)) FP.dconst1 = tU (c - 4503599627370496) := by
  have hs : FP.Core.exactSum (.fin false c (-52)) (.fin true 4503599627370496 (-52)) = .fin false (c - 4503599627370496) (-52) := by
    have e1 : FP.Core.sumUnits false c (-52) true 4503599627370496 (-52) (-52) = ((c - 4503599627370496 : Nat) : Int) := by
      show ((c * 2 ^ 0 : Nat) : Int) + -((4503599627370496 * 2 ^ 0 : Nat) : Int) = _
      omega
    show FP.Core.Datum.fin (FP.Core.sumSign false true (FP.Core.sumUnits false c (-52) true 4503599627370496 (-52) (-52))) (FP.Core.sumUnits false c (-52) true 4503599627370496 (-52) (-52)).natAbs (-52) = _
    rw [e1]
    have e2 : FP.Core.sumSign false true ((c - 4503599627370496 : Nat) : Int) = false := by
      unfold FP.Core.sumSign
      split
      · rfl
      · exact decide_eq_false (by omega)
    rw [e2, Int.natAbs_natCast]
  show UInt64.ofNat (FP.Core.encode FP.Core.b64 (FP.Core.round FP.Core.b64 (FP.Core.exactSum (FP.Core.decode FP.Core.b64 (dU false c (-52)).toNat) (FP.Core.negate (FP.Core.decode FP.Core.b64 FP.dconst1.toNat))))) = _
  rw [dU_dec h1 h2 (by decide) (by decide), fp_d1]
  show UInt64.ofNat (FP.Core.encode FP.Core.b64 (FP.Core.round FP.Core.b64 (FP.Core.exactSum (.fin false c (-52)) (.fin true 4503599627370496 (-52))))) = _
  rw [hs]
  generalize ht : c - 4503599627370496 = t
  show UInt64.ofNat (FP.Core.encode FP.Core.b64 (FP.Core.roundRatio FP.Core.b64 false t 1 (-52))) = _
  unfold tU
  by_cases h0 : t = 0
  · subst h0
    rw [if_pos rfl]
    decide +kernel
  · rw [if_neg h0]
    obtain ⟨a1, a2, a3⟩ := t_b (t := t) (by omega) (by omega)
    have hr : FP.Core.roundRatio FP.Core.b64 false t 1 (-52) = .fin false (t * 2 ^ (52 - t.log2)) ((t.log2 : Int) - 104) := by
      refine fd_exact (by omega) (by decide) (by rw [fd_lead1 (by omega)]; omega) ?_ a3 (by omega) (by omega)
      have e1 : (-52 - ((t.log2 : Int) - 104)).toNat = 52 - t.log2 := by omega
      have e2 : ((t.log2 : Int) - 104 - -52).toNat = 0 := by omega
      rw [e1, e2]
      omega
    rw [hr, fd_enc a2]
    rfl
def wU (t : Nat) : UInt64 := if t = 0 then 0 else dU false (t * 2 ^ (52 - t.log2)) ((t.log2 : Int) - 52)
theorem fp_up {t : Nat} (ht : t < 4503599627370496) : FP.dmul (tU t) (4841369599423283200 : UInt64) = wU t := by
  unfold tU wU
  by_cases h0 : t = 0
  · rw [if_pos h0, if_pos h0]
    decide +kernel
  · rw [if_neg h0, if_neg h0]
    obtain ⟨a1, a2, a3⟩ := t_b (t := t) (by omega) ht
    generalize hC : t * 2 ^ (52 - t.log2) = C at a2 a3
    have hr : FP.Core.roundRatio FP.Core.b64 false (C * 4503599627370496) 1 ((t.log2 : Int) - 104 + 0) = .fin false C ((t.log2 : Int) - 52) := by
      refine fd_exact (by omega) (by decide) ?_ ?_ a3 (by omega) (by omega)
      · rw [fd_lead1 (by omega), log2_of (k := 104) (by omega) (by omega)]
        omega
      · have e1 : ((t.log2 : Int) - 104 + 0 - ((t.log2 : Int) - 52)).toNat = 0 := by omega
        have e2 : ((t.log2 : Int) - 52 - ((t.log2 : Int) - 104 + 0)).toNat = 52 := by omega
        rw [e1, e2]
        omega
    show UInt64.ofNat (FP.Core.encode FP.Core.b64 (FP.Core.round FP.Core.b64 (FP.Core.exactProduct (FP.Core.decode FP.Core.b64 (dU false C ((t.log2 : Int) - 104)).toNat) (FP.Core.decode FP.Core.b64 (4841369599423283200 : UInt64).toNat)))) = _
    rw [dU_dec a2 a3 (by omega) (by omega), fp_d52]
    show UInt64.ofNat (FP.Core.encode FP.Core.b64 (FP.Core.roundRatio FP.Core.b64 false (C * 4503599627370496) 1 ((t.log2 : Int) - 104 + 0))) = _
    rw [hr, fd_enc a2]
    rfl
theorem fp_int {t : Nat} (ht : t < 4503599627370496) : FP.d2l (wU t) = Int64.ofInt (t : Int) := by
  unfold wU
  by_cases h0 : t = 0
  · subst h0
    rw [if_pos rfl]
    decide +kernel
  · rw [if_neg h0]
    obtain ⟨a1, a2, a3⟩ := t_b (t := t) (by omega) ht
    show FP.Core.toL (FP.Core.decode FP.Core.b64 (dU false (t * 2 ^ (52 - t.log2)) ((t.log2 : Int) - 52)).toNat) = _
    rw [dU_dec a2 a3 (by omega) (by omega)]
    show Int64.ofInt (max (-2 ^ 63) (min (2 ^ 63 - 1) (FP.Core.truncate false (t * 2 ^ (52 - t.log2)) ((t.log2 : Int) - 52)))) = _
    have e1 : ((t.log2 : Int) - 52).toNat = 0 := by omega
    have e2 : (-((t.log2 : Int) - 52)).toNat = 52 - t.log2 := by omega
    have e3 : FP.Core.truncate false (t * 2 ^ (52 - t.log2)) ((t.log2 : Int) - 52) = (t : Int) := by
      unfold FP.Core.truncate
      rw [e1, e2, Nat.pow_zero, Nat.mul_one, Nat.mul_div_cancel _ (Nat.two_pow_pos _)]
      rfl
    rw [e3]
    congr 1
    omega
def lShl (x : Int64) (y : Int32) : Int64 := x <<< (y.toInt64 &&& 63)
theorem lsh_all : ∀ n : Fin 2048, lShl (Int64.ofNat n.val) (nI 52) = Int64.ofNat (n.val * 4503599627370496) := by decide +kernel
theorem ex_all : ∀ n : Fin 1024, Int64.ofNat (n.val + 1) - 1 = Int64.ofNat n.val := by decide +kernel
theorem ex_dec {k : Nat} (h : k < 1023) : Int64.ofNat (1023 - k) - 1 = Int64.ofNat (1023 - (k + 1)) := by
  have h1 := ex_all ⟨1023 - (k + 1), by omega⟩
  have h2 : 1023 - (k + 1) + 1 = 1023 - k := by omega
  rw [← h2]
  exact h1
/-- the bits, put together -/
theorem fp_bits {c k : Nat} {q : Int} (h1 : 4503599627370496 ≤ c) (h2 : c < 9007199254740992) (hq : q + (k : Int) = -52) (hk : k ≤ 64) : lShl (Int64.ofNat (1023 - k)) (nI 52) + Int64.ofInt ((c - 4503599627370496 : Nat) : Int) = (dU false c q).toInt64 := by
  have h3 := lsh_all ⟨1023 - k, by omega⟩
  have h3 : lShl (Int64.ofNat (1023 - k)) (nI 52) = Int64.ofNat ((1023 - k) * 4503599627370496) := h3
  rw [h3]
  have h4 : (dU false c q).toInt64 = Int64.ofNat (dB false c q) := rfl
  rw [h4]
  have h5 : Int64.ofInt ((c - 4503599627370496 : Nat) : Int) = Int64.ofNat (c - 4503599627370496) := by
    rw [Int64.ofInt_eq_ofNat]
  rw [h5, ← Int64.ofNat_add]
  refine congrArg Int64.ofNat ?_
  have h6 : (q + 1074).toNat = 1022 - k := by omega
  have h7 : dB false c q = (0 * 2048 + (1022 - k + 1)) * 4503599627370496 + (c - 4503599627370496) := by
    unfold dB
    rw [h6]
    rfl
  rw [h7]
  omega
theorem n64_dU {c : Nat} {q : Int} (h1 : 4503599627370496 ≤ c) (h2 : c < 9007199254740992) (h4 : q ≤ 971) : vf_n64 (dU false c q) := by
  have h5 := fd_le (d := .fin false c q) ⟨h2, h4⟩
  rw [fd_enc h1] at h5
  exact fd_n64 h5.1 h5.2
theorem n64_0 : vf_n64 0 := by unfold vf_n64; decide
theorem n64_tU {t : Nat} (ht : t < 4503599627370496) : vf_n64 (tU t) := by
  unfold tU
  split
  · exact n64_0
  · obtain ⟨a1, a2, a3⟩ := t_b (t := t) (by omega) ht
    exact n64_dU a2 a3 (by omega)
theorem n64_wU {t : Nat} (ht : t < 4503599627370496) : vf_n64 (wU t) := by
  unfold wU
  split
  · exact n64_0
  · obtain ⟨a1, a2, a3⟩ := t_b (t := t) (by omega) ht
    exact n64_dU a2 a3 (by omega)
theorem near_b (N D : Nat) : N / D ≤ FP.Core.nearest N D ∧ FP.Core.nearest N D ≤ N / D + 1 := by
  unfold FP.Core.nearest
  split
  · omega
  · split
    · omega
    · omega
theorem rr_b {A B : Nat} {e q : Int} (hA : 0 < A) (hq : FP.Core.quantum FP.Core.b64 A B e = q) (h1 : -1074 ≤ q) (h2 : q < 971) {C : Nat} (hC : FP.Core.nearest (FP.Core.unitsNum A e q) (FP.Core.unitsDen B e q) = C) (hl : 4503599627370496 ≤ C) (hu : C ≤ 9007199254740992) : ∃ (c : Nat) (r : Int), FP.Core.roundRatio FP.Core.b64 false A B e = .fin false c r ∧ 4503599627370496 ≤ c ∧ c < 9007199254740992 ∧ (r = q ∨ (r = q + 1 ∧ C = 9007199254740992)) := by
  have hr : FP.Core.roundRatio FP.Core.b64 false A B e = FP.Core.settle FP.Core.b64 false C q := by
    unfold FP.Core.roundRatio
    rw [if_neg (by omega), hq]
    unfold FP.Core.roundAt
    rw [hC]
  rw [hr]
  unfold FP.Core.settle
  by_cases h : C < 9007199254740992
  · rw [if_pos (show C < 2 ^ FP.Core.b64.p from h)]
    refine ⟨C, q, ?_, hl, h, Or.inl rfl⟩
    unfold FP.Core.bound
    rw [if_pos (show q ≤ FP.Core.b64.qmax from (by show q ≤ 971; omega))]
  · rw [if_neg (show ¬ C < 2 ^ FP.Core.b64.p from h)]
    refine ⟨4503599627370496, q + 1, ?_, by decide, by decide, Or.inr ⟨rfl, by omega⟩⟩
    unfold FP.Core.bound
    rw [if_pos (show q + 1 ≤ FP.Core.b64.qmax from (by show q + 1 ≤ 971; omega))]
    rfl
theorem log2_mono {a b : Nat} (ha : 0 < a) (h : a ≤ b) : a.log2 ≤ b.log2 := by
  have h1 : 2 ^ a.log2 ≤ a := Nat.log2_self_le (by omega)
  exact (Nat.le_log2 (by omega)).mpr (by omega)
/-- the share of a out of b is a normal double of at most one -/
theorem share_U {a b : Nat} (ha : 0 < a) (hab : a ≤ b) (hb : b < 2 ^ 31) : ∃ (c : Nat) (r : Int), FP.ddiv (FP.i2d (nI a)) (FP.i2d (nI b)) = dU false c r ∧ 4503599627370496 ≤ c ∧ c < 9007199254740992 ∧ -115 ≤ r ∧ r ≤ -52 := by
  have ta : (nI a).toInt = (a : Int) := nI_toInt (by omega)
  have tb : (nI b).toInt = (b : Int) := nI_toInt hb
  have na : ¬ nI a = 0 := nI_ne0 ha (by omega)
  have nb : ¬ nI b = 0 := nI_ne0 (by omega) hb
  obtain ⟨a1, a2, a3, -⟩ := i2d_b na
  obtain ⟨b1, b2, b3, -⟩ := i2d_b nb
  have hda := dU_dec (s := decide ((nI a).toInt < 0)) a1 a2 (show -1074 ≤ iQ (nI a) by unfold iQ; omega) (by unfold iQ; omega)
  have hdb := dU_dec (s := decide ((nI b).toInt < 0)) b1 b2 (show -1074 ≤ iQ (nI b) by unfold iQ; omega) (by unfold iQ; omega)
  rw [← i2d_U na] at hda
  rw [← i2d_U nb] at hdb
  have sa : decide ((nI a).toInt < 0) = false := decide_eq_false (by omega)
  have sb : decide ((nI b).toInt < 0) = false := decide_eq_false (by omega)
  rw [sa] at hda
  rw [sb] at hdb
  have lab : (nI a).toInt.natAbs.log2 ≤ (nI b).toInt.natAbs.log2 := log2_mono (by omega) (by omega)
  have hcab : (nI a).toInt.natAbs.log2 = (nI b).toInt.natAbs.log2 → iC (nI a) ≤ iC (nI b) := by
    intro h
    unfold iC
    rw [h]
    exact Nat.mul_le_mul_right _ (by omega)
  have he : iQ (nI a) - iQ (nI b) = ((nI a).toInt.natAbs.log2 : Int) - ((nI b).toInt.natAbs.log2 : Int) := by unfold iQ; omega
  generalize hca : iC (nI a) = x at *
  generalize hcb : iC (nI b) = y at *
  generalize hla : (nI a).toInt.natAbs.log2 = la at *
  generalize hlb : (nI b).toInt.natAbs.log2 = lb at *
  generalize heq : iQ (nI a) - iQ (nI b) = e at *
  have hx : x.log2 = 52 := log2_of (by omega) (by omega)
  have hy : y.log2 = 52 := log2_of (by omega) (by omega)
  have hlead : FP.Core.leading x y = if y ≤ x then 0 else -1 := by
    unfold FP.Core.leading
    simp only [hx, hy]
    by_cases h : y ≤ x
    · rw [if_pos h]
      exact if_pos (show y * 2 ^ 0 ≤ x * 2 ^ 0 by omega)
    · rw [if_neg h]
      exact if_neg (show ¬ y * 2 ^ 0 ≤ x * 2 ^ 0 by omega)
  have hdiv : FP.ddiv (FP.i2d (nI a)) (FP.i2d (nI b)) = UInt64.ofNat (FP.Core.encode FP.Core.b64 (FP.Core.roundRatio FP.Core.b64 false x y e)) := by
    show UInt64.ofNat (FP.Core.encode FP.Core.b64 (FP.Core.quotient FP.Core.b64 (FP.Core.decode FP.Core.b64 (FP.i2d (nI a)).toNat) (FP.Core.decode FP.Core.b64 (FP.i2d (nI b)).toNat))) = _
    rw [hda, hdb]
    show UInt64.ofNat (FP.Core.encode FP.Core.b64 (if y = 0 then _ else FP.Core.roundRatio FP.Core.b64 false x y (iQ (nI a) - iQ (nI b)))) = _
    rw [if_neg (by omega), heq]
  have fin : ∀ (c : Nat) (r : Int), FP.Core.roundRatio FP.Core.b64 false x y e = .fin false c r → 4503599627370496 ≤ c → c < 9007199254740992 → -115 ≤ r → r ≤ -52 → ∃ (c : Nat) (r : Int), FP.ddiv (FP.i2d (nI a)) (FP.i2d (nI b)) = dU false c r ∧ 4503599627370496 ≤ c ∧ c < 9007199254740992 ∧ -115 ≤ r ∧ r ≤ -52 := by
    intro c r h1 h2 h3 h4 h5
    refine ⟨c, r, ?_, h2, h3, h4, h5⟩
    rw [hdiv, h1, fd_enc h2]
    rfl
  by_cases hxy : y ≤ x
  · rw [if_pos hxy] at hlead
    have hq : FP.Core.quantum FP.Core.b64 x y e = e - 52 := by
      show max (-1074 : Int) (FP.Core.leading x y + e - (53 - 1)) = e - 52
      rw [hlead]
      omega
    have hN : FP.Core.unitsNum x e (e - 52) = x * 4503599627370496 := by
      unfold FP.Core.unitsNum
      have e1 : (e - (e - 52)).toNat = 52 := by omega
      rw [e1]
    have hD : FP.Core.unitsDen y e (e - 52) = y := by
      unfold FP.Core.unitsDen
      have e1 : (e - 52 - e).toNat = 0 := by omega
      rw [e1, Nat.pow_zero, Nat.mul_one]
    have hnb := near_b (x * 4503599627370496) y
    have hlo : 4503599627370496 ≤ x * 4503599627370496 / y := (Nat.le_div_iff_mul_le (by omega)).mpr (by rw [Nat.mul_comm]; exact Nat.mul_le_mul_right _ hxy)
    have hhi : x * 4503599627370496 / y < 9007199254740992 := (Nat.div_lt_iff_lt_mul (by omega)).mpr (by omega)
    obtain ⟨c, r, h1, h2, h3, h4⟩ := rr_b (A := x) (B := y) (e := e) (q := e - 52) (C := FP.Core.nearest (x * 4503599627370496) y) (by omega) hq (by omega) (by omega) (by rw [hN, hD]) (by omega) (by omega)
    refine fin c r h1 h2 h3 (by omega) ?_
    rcases h4 with h4 | ⟨h4, h5⟩
    · omega
    · rcases Int.lt_or_le e 0 with h6 | h6
      · omega
      · exfalso
        have h7 := hcab (by omega)
        have h8 : x = y := by omega
        rw [h8, Nat.mul_comm, fd_near (by omega)] at h5
        omega
  · rw [if_neg hxy] at hlead
    have hq : FP.Core.quantum FP.Core.b64 x y e = e - 53 := by
      show max (-1074 : Int) (FP.Core.leading x y + e - (53 - 1)) = e - 53
      rw [hlead]
      omega
    have hN : FP.Core.unitsNum x e (e - 53) = x * 9007199254740992 := by
      unfold FP.Core.unitsNum
      have e1 : (e - (e - 53)).toNat = 53 := by omega
      rw [e1]
    have hD : FP.Core.unitsDen y e (e - 53) = y := by
      unfold FP.Core.unitsDen
      have e1 : (e - 53 - e).toNat = 0 := by omega
      rw [e1, Nat.pow_zero, Nat.mul_one]
    have hnb := near_b (x * 9007199254740992) y
    have hlo : 4503599627370496 ≤ x * 9007199254740992 / y := (Nat.le_div_iff_mul_le (by omega)).mpr (by omega)
    have hhi : x * 9007199254740992 / y < 9007199254740992 := (Nat.div_lt_iff_lt_mul (by omega)).mpr (by omega)
    obtain ⟨c, r, h1, h2, h3, h4⟩ := rr_b (A := x) (B := y) (e := e) (q := e - 53) (C := FP.Core.nearest (x * 9007199254740992) y) (by omega) hq (by omega) (by omega) (by rw [hN, hD]) (by omega) (by omega)
    refine fin c r h1 h2 h3 (by omega) ?_
    rcases h4 with h4 | ⟨h4, h5⟩ <;> omega
theorem share_0 {b : Nat} (hb0 : 0 < b) (hb : b < 2 ^ 31) : FP.ddiv (FP.i2d (nI 0)) (FP.i2d (nI b)) = 0 := by
  have tb : (nI b).toInt = (b : Int) := nI_toInt hb
  have nb : ¬ nI b = 0 := nI_ne0 hb0 hb
  obtain ⟨b1, b2, b3, -⟩ := i2d_b nb
  have hdb := dU_dec (s := decide ((nI b).toInt < 0)) b1 b2 (show -1074 ≤ iQ (nI b) by unfold iQ; omega) (by unfold iQ; omega)
  rw [← i2d_U nb, decide_eq_false (show ¬ (nI b).toInt < 0 by omega)] at hdb
  have hda : FP.Core.decode FP.Core.b64 (FP.i2d (nI 0)).toNat = .fin false 0 (-1074) := by decide +kernel
  show UInt64.ofNat (FP.Core.encode FP.Core.b64 (FP.Core.quotient FP.Core.b64 (FP.Core.decode FP.Core.b64 (FP.i2d (nI 0)).toNat) (FP.Core.decode FP.Core.b64 (FP.i2d (nI b)).toNat))) = _
  rw [hda, hdb]
  show UInt64.ofNat (FP.Core.encode FP.Core.b64 (if iC (nI b) = 0 then _ else if (0 : Nat) = 0 then .fin false 0 (-1074) else _)) = _
  rw [if_neg (by omega), if_pos rfl]
  decide +kernel
/-- WhistleTunes.bitsOfShare, what it takes and gives -/
def bsOk (x : UInt64) : Prop := x = 0 ∨ ∃ (c : Nat) (q : Int), x = dU false c q ∧ 4503599627370496 ≤ c ∧ c < 9007199254740992 ∧ -115 ≤ q ∧ q ≤ -52
theorem bs_1 : bsOk FP.dconst1 := Or.inr ⟨4503599627370496, -52, by decide +kernel, by decide, by decide, by decide, by decide⟩
theorem bs_share {a b : Nat} (h0 : 0 < b) (hab : a ≤ b) (hb : b < 2 ^ 31) : bsOk (FP.ddiv (FP.i2d (nI a)) (FP.i2d (nI b))) := by
  rcases Nat.eq_zero_or_pos a with ha | ha
  · subst ha
    exact Or.inl (share_0 h0 hb)
  · obtain ⟨c, r, h⟩ := share_U ha hab hb
    exact Or.inr ⟨c, r, h⟩
/-! WhistleTunes: share and digest (printed by wip/whole/s47.py) -/
def cShare (k a : Int32) : UInt64 := if 0 < a then FP.ddiv (FP.i2d k) (FP.i2d a) else FP.dconst1
def cSh (S : Nat → Nat → Int32) : UInt64 := cShare (pSm (S 13) 6) (pSm (S 13) 6 + pSm (S 14) 6)
def cTx (cd : Nat → Nat) (n : Nat) (g : Int64) : Nat → Int64 | 0 => dMx g (nI n).toInt64 | k + 1 => dMx (cTx cd n g k) (nI (pAt cd n k)).toInt64
def cM1 (S : Nat → Nat → Int32) (m : Nat) (g : Int64) : Nat → Int64 | 0 => g | k + 1 => dMx (cM1 S m g k) (pMsg S m k).toInt64
def cM2 (S : Nat → Nat → Int32) (m : Nat) (g : Int64) : Nat → Int64 | 0 => cM1 S m g 4 | k + 1 => dMx (cM2 S m g k) (pNote S m k).toInt64
def cMx (S : Nat → Nat → Int32) (m : Nat) (g : Int64) : Int64 := dMx (cM2 S m g 8) ((pBr S m 6).1).toInt64
def cR1 (S : Nat → Nat → Int32) (r : Nat) (g : Int64) : Nat → Int64 | 0 => g | k + 1 => dMx (cR1 S r g k) (pRm S r k).toInt64
def cR2 (S : Nat → Nat → Int32) (r : Nat) (g : Int64) : Nat → Int64 | 0 => dMx (cR1 S r g 6) (pWhy S r 0).toInt64 | k + 1 => dMx (cR2 S r g k) (pIf S r 12 k).toInt64
def cRO (O S : Nat → Nat → Int32) (r : Nat) : Nat → (Nat → Nat → Int32) | 0 => O | k + 1 => pIfO (cRO O S r k) S r 12
def cD1 (S : Nat → Nat → Int32) (tl : Nat → Nat) (n : Nat) : Nat → Int64 | 0 => 3911 | k + 1 => dMx (cD1 S tl n k) (if k = 3 then nI (tG S tl 20).2.2 else pCt S n k).toInt64
def cD2 (S : Nat → Nat → Int32) (g : Int64) : Nat → Int64 | 0 => g | k + 1 => cMx S k (cD2 S g k)
def cO2 (O S : Nat → Nat → Int32) : Nat → (Nat → Nat → Int32) | 0 => O | k + 1 => pBrO (cO2 O S k) S k 6
def cD3 (S : Nat → Nat → Int32) (g : Int64) : Nat → Int64 | 0 => g | k + 1 => cR2 S k (cD3 S g k) 4
def cO3 (O S : Nat → Nat → Int32) : Nat → (Nat → Nat → Int32) | 0 => O | k + 1 => cRO (cO3 O S k) S k 4
def cD4 (S : Nat → Nat → Int32) (g : Int64) : Nat → Int64 | 0 => g | k + 1 => dMx (cD4 S g k) (S 15 k).toInt64
def cD5 (S : Nat → Nat → Int32) (g : Int64) : Nat → Int64 | 0 => g | k + 1 => dMx (cD5 S g k) (S 16 k).toInt64
def cDg (S : Nat → Nat → Int32) (tl : Nat → Nat) (nh : Nat) (cd : Nat → Nat) (n : Nat) : Int64 := cTx cd n (dMx (cD5 S (cD4 S (cD3 S (cD2 S (cD1 S tl nh 14) 20) 6) 6) 2) (cSh S).toInt64) n

set_option maxHeartbeats 4000000 in
set_option maxRecDepth 100000 in
theorem c_X7_bitsOfShare_0 (l : Launch) (G : va_G) (T : Nat → ClassId) (sz : Nat) : RWl l yX7_bitsOfShare wsX7_bitsOfShare 0 0 0 G T sz ([]) [.double (0 : UInt64)] ((0 : UInt64).toInt64) ([]) := by
  refine Met.ofW (cc := cX7_bitsOfShare) (maxL := 7) (ret := (some .long)) (by decide) rfl ?_
  intro p e s m args below meth c s₁ B hml hv
  obtain ⟨ha, hsz, hP, hK, hD0, hE0⟩ := hv
  have hx := B.exec
  have hb := B.bytes
  have hr := B.returns
  have hlocks := B.notSynchronized
  have hts := atoms_spec (ws := wsX7_bitsOfShare) B.pre
  have hown : s.vm.findClass RX7 = some m.cls := findClass_of_methodNamed B.named
  have cx : CallFix p m c cX7_bitsOfShare 7 s args wsX7_bitsOfShare RX7 := ⟨hx, hb, hml, hown, hts⟩
  subst hsz
  have hD := hD0.self (sz := s.heap.size)
  generalize hAe : va_A ([]) s.heap.size = A at hD hE0 ⊢
  have hE : gE A s s.heap := hE0
  have hA : ∀ q : Nat, s.heap.size ≤ q → A q := fun q h => by rw [← hAe]; exact Or.inr h
  have hS : va_S A s.heap s.heap [] := va_S.rf
  refine w_entry ha (Nat.le_of_ble_eq_true rfl) (fun ls hl => ?_)
  refine w_q (fun Q0 hQ => ?_)
  have hl : lv_has ls 7 [(0, .double (0 : UInt64))] := hl
  have hP : va_P G vwCl [] s.heap := hP
  have hD : va_D A [] := hD
  skip
  refine w_h (fun H locs hHe hLe => ?_)
  have hP : va_P G vwCl [] H := by rw [hHe]; exact hP
  have hS : va_S A s.heap H locs := by rw [hHe, hLe]; exact hS
  refine lv_dload_n hx hb dX7_bitsOfShare_0 rfl (lv_at hl 0 rfl) ?_
  refine lv_dconst0 hx hb dX7_bitsOfShare_1 ?_
  refine lv_dcmp hx hb dX7_bitsOfShare_2 ?_
  refine n_top (y := nI 0) (by decide +kernel) ?_
  refine n_if_gt (a := 0) (tgt := 8) hx hb (by decide) dX7_bitsOfShare_3 (by decide) (fun h9 => absurd h9 (by decide)) (fun c_1 => ?_)
  refine lv_lconst (v := 0) hx hb dX7_bitsOfShare_6 (by decide) ?_
  subst hQ
  have hP9 : va_P G vwCl ([]) H := hP
  have hD9 : va_D A ([]) := hD
  exact e_rwl hx hb hr hlocks hS rfl hP9 hD9 dX7_bitsOfShare_7
set_option maxHeartbeats 4000000 in
set_option maxRecDepth 100000 in
theorem c_X7_bitsOfShare_1 (l : Launch) (G : va_G) (T : Nat → ClassId) (sz : Nat) (cm : Nat) (Kn : Nat) (hc1 : 4503599627370496 ≤ cm) (hc2 : cm < 9007199254740992) (hKn : Kn ≤ 63) : RWl l yX7_bitsOfShare wsX7_bitsOfShare 0 0 0 G T sz ([]) [.double (dU false cm (-52 - (Kn : Int)))] ((dU false cm (-52 - (Kn : Int))).toInt64) ([]) := by
  refine Met.ofW (cc := cX7_bitsOfShare) (maxL := 7) (ret := (some .long)) (by decide) rfl ?_
  intro p e s m args below meth c s₁ B hml hv
  obtain ⟨ha, hsz, hP, hK, hD0, hE0⟩ := hv
  have hx := B.exec
  have hb := B.bytes
  have hr := B.returns
  have hlocks := B.notSynchronized
  have hts := atoms_spec (ws := wsX7_bitsOfShare) B.pre
  have hown : s.vm.findClass RX7 = some m.cls := findClass_of_methodNamed B.named
  have cx : CallFix p m c cX7_bitsOfShare 7 s args wsX7_bitsOfShare RX7 := ⟨hx, hb, hml, hown, hts⟩
  subst hsz
  have hD := hD0.self (sz := s.heap.size)
  generalize hAe : va_A ([]) s.heap.size = A at hD hE0 ⊢
  have hE : gE A s s.heap := hE0
  have hA : ∀ q : Nat, s.heap.size ≤ q → A q := fun q h => by rw [← hAe]; exact Or.inr h
  have hS : va_S A s.heap s.heap [] := va_S.rf
  refine w_entry ha (Nat.le_of_ble_eq_true rfl) (fun ls hl => ?_)
  refine w_q (fun Q0 hQ => ?_)
  have hl : lv_has ls 7 [(0, .double (dU false cm (-52 - (Kn : Int))))] := hl
  have hP : va_P G vwCl [] s.heap := hP
  have hD : va_D A [] := hD
  skip
  refine w_h (fun H locs hHe hLe => ?_)
  have hP : va_P G vwCl [] H := by rw [hHe]; exact hP
  have hS : va_S A s.heap H locs := by rw [hHe, hLe]; exact hS
  refine lv_dload_n hx hb dX7_bitsOfShare_0 rfl (lv_at hl 0 rfl) ?_
  refine lv_dconst0 hx hb dX7_bitsOfShare_1 ?_
  refine lv_dcmp hx hb dX7_bitsOfShare_2 ?_
  refine n_top (y := nI 1) (by rw [fp_gt0 hc1 hc2 (by omega) (by omega)]; rfl) ?_
  refine n_if_gt (a := 1) (tgt := 8) hx hb (by decide) dX7_bitsOfShare_3 (by decide) (fun c_1 => ?_) (fun h9 => absurd h9 (by decide))
  refine lv_dload_n hx hb dX7_bitsOfShare_8 rfl (lv_at hl 0 rfl) ?_
  refine lv_dstore_n (lv' := [(2, .double (dU false cm (-52 - (Kn : Int)))), (0, .double (dU false cm (-52 - (Kn : Int))))]) hx hb dX7_bitsOfShare_9 rfl hl (by decide) rfl (fun ls hl => ?_)
  refine lv_ldc2 (v := 1023) hx hb hown (hts (.constantLong RX7 356 (1023)) (by decide +kernel)) dX7_bitsOfShare_10 ?_
  refine lv_lstore (lv' := [(4, .long (1023 : Int64)), (2, .double (dU false cm (-52 - (Kn : Int)))), (0, .double (dU false cm (-52 - (Kn : Int))))]) hx hb dX7_bitsOfShare_13 hl (by decide) rfl (fun ls hl => ?_)
  refine n_iconst hx hb 0 dX7_bitsOfShare_15 (by decide) ?_
  refine lv_istore (lv' := [(6, .int (nI 0)), (4, .long (1023 : Int64)), (2, .double (dU false cm (-52 - (Kn : Int)))), (0, .double (dU false cm (-52 - (Kn : Int))))]) hx hb dX7_bitsOfShare_16 hl (by decide) rfl (fun ls hl => ?_)
  have L18 : ∀ (n9 k : Nat) (hk1 : k ≤ Kn) (hk2 : Kn - k < n9) (x6 : Int32) (x4 : Int64) (x2 : UInt64) (hx6 : x6 = nI k) (hx4 : x4 = Int64.ofNat (1023 - k)) (hx2 : x2 = dU false cm (-52 - (Kn : Int) + ((k : Nat) : Int))) (H : Heap) (locs : List Loc) (hP : va_P G vwCl [] H) (hD : va_D A []) (hS : va_S A s.heap H locs) (ls : Array Slot) (hl : lv_has ls 7 [(6, .int x6), (4, .long x4), (2, .double x2), (0, .double (dU false cm (-52 - (Kn : Int))))]), W p l e (headSpec wsX7_bitsOfShare (rmD 0 0 0)).room s m args below meth c H locs 0 0 Q0 (F0 m 18 ls []) := by
    intro n9
    induction n9 with
    | zero => intros; omega
    | succ n9 ih18 =>
      intro k hk1 hk2 x6 x4 x2 hx6 hx4 hx2 H locs hP hD hS ls hl
      subst hx6 hx4 hx2
      refine lv_iload hx hb dX7_bitsOfShare_18 (lv_at hl 0 rfl) ?_
      refine lv_bipush (v := nI 64) hx hb dX7_bitsOfShare_20 (by decide) ?_
      refine n_icmp_ge (a := k) (b := 64) (tgt := 49) hx hb (by omega) (by decide) dX7_bitsOfShare_22 (by decide) (fun c_2 => by exfalso; omega) (fun c_3 => ?_)
      refine lv_dload_n hx hb dX7_bitsOfShare_25 rfl (lv_at hl 2 rfl) ?_
      refine lv_dconst1 hx hb dX7_bitsOfShare_26 ?_
      refine lv_dcmp hx hb dX7_bitsOfShare_27 ?_
      refine lv_if_ge (tgt := 49) hx hb dX7_bitsOfShare_28 (by decide) (fun c_4 => ?_) (fun c_5 => ?_)
      · skip
        have hkK : k = Kn := (by rcases Nat.lt_or_ge k Kn with h9 | h9; (exfalso; rw [fp_lt1 hc1 hc2 (by omega) (by omega)] at c_4; revert c_4; decide); omega)
        refine lv_lload hx hb dX7_bitsOfShare_49 (lv_at hl 1 rfl) ?_
        refine lv_bipush (v := nI 52) hx hb dX7_bitsOfShare_51 (by decide) ?_
        refine lv_lshl (v := lShl (Int64.ofNat (1023 - k)) (nI 52)) hx hb dX7_bitsOfShare_53 rfl ?_
        refine lv_dload_n hx hb dX7_bitsOfShare_54 rfl (lv_at hl 2 rfl) ?_
        refine lv_dconst1 hx hb dX7_bitsOfShare_55 ?_
        refine lv_dsub (x := dU false cm (-52 - (Kn : Int) + ((k : Nat) : Int))) (y := FP.dconst1) hx hb dX7_bitsOfShare_56 (by rw [show (-52 - (Kn : Int) + ((k : Nat) : Int)) = -52 by omega, fp_sub1 hc1 hc2]; exact n64_tU (by omega)) ?_
        refine lv_ldc2d (v := 4841369599423283200) hx hb hown (hts (.constantDouble RX7 360 (4841369599423283200)) (by decide +kernel)) dX7_bitsOfShare_57 ?_
        refine lv_dmul (x := FP.dsub (dU false cm (-52 - (Kn : Int) + ((k : Nat) : Int))) FP.dconst1) (y := (4841369599423283200 : UInt64)) hx hb dX7_bitsOfShare_60 (by rw [show (-52 - (Kn : Int) + ((k : Nat) : Int)) = -52 by omega, fp_sub1 hc1 hc2, fp_up (by omega)]; exact n64_wU (by omega)) ?_
        refine lv_d2l hx hb dX7_bitsOfShare_61 ?_
        refine lv_ladd hx hb dX7_bitsOfShare_62 ?_
        subst hQ
        have hP9 : va_P G vwCl ([]) H := hP
        have hD9 : va_D A ([]) := hD
        exact e_rwl hx hb hr hlocks hS (by rw [show (-52 - (Kn : Int) + ((k : Nat) : Int)) = -52 by omega, fp_sub1 hc1 hc2, fp_up (by omega), fp_int (by omega)]; exact fp_bits hc1 hc2 (by omega) (by omega)) hP9 hD9 dX7_bitsOfShare_63
      · skip
        have hkK : k < Kn := (by rcases Nat.lt_or_ge k Kn with h9 | h9; exact h9; exfalso; rw [show (-52 - (Kn : Int) + ((k : Nat) : Int)) = -52 by omega, fp_ge1 hc1 hc2] at c_5; by_cases h7 : cm = 4503599627370496; (rw [if_pos h7] at c_5; revert c_5; decide); (rw [if_neg h7] at c_5; revert c_5; decide))
        refine lv_dload_n hx hb dX7_bitsOfShare_31 rfl (lv_at hl 2 rfl) ?_
        refine lv_ldc2d (v := 4611686018427387904) hx hb hown (hts (.constantDouble RX7 358 (4611686018427387904)) (by decide +kernel)) dX7_bitsOfShare_32 ?_
        refine lv_dmul (x := dU false cm (-52 - (Kn : Int) + ((k : Nat) : Int))) (y := (4611686018427387904 : UInt64)) hx hb dX7_bitsOfShare_35 (by rw [fp_dbl hc1 hc2 (by omega) (by omega)]; exact n64_dU hc1 hc2 (by omega)) ?_
        refine lv_dstore_n (lv' := [(2, .double (FP.dmul (dU false cm (-52 - (Kn : Int) + ((k : Nat) : Int))) (4611686018427387904 : UInt64))), (6, .int (nI k)), (4, .long (Int64.ofNat (1023 - k))), (0, .double (dU false cm (-52 - (Kn : Int))))]) hx hb dX7_bitsOfShare_36 rfl hl (by decide) rfl (fun ls hl => ?_)
        refine lv_lload hx hb dX7_bitsOfShare_37 (lv_at hl 2 rfl) ?_
        refine lv_lconst (v := 1) hx hb dX7_bitsOfShare_39 (by decide) ?_
        refine lv_lsub hx hb dX7_bitsOfShare_40 ?_
        refine lv_lstore (lv' := [(4, .long ((Int64.ofNat (1023 - k)) - 1)), (2, .double (FP.dmul (dU false cm (-52 - (Kn : Int) + ((k : Nat) : Int))) (4611686018427387904 : UInt64))), (6, .int (nI k)), (0, .double (dU false cm (-52 - (Kn : Int))))]) hx hb dX7_bitsOfShare_41 hl (by decide) rfl (fun ls hl => ?_)
        refine lv_iinc (v := nI (k + 1)) (lv' := [(6, .int (nI (k + 1))), (4, .long ((Int64.ofNat (1023 - k)) - 1)), (2, .double (FP.dmul (dU false cm (-52 - (Kn : Int) + ((k : Nat) : Int))) (4611686018427387904 : UInt64))), (0, .double (dU false cm (-52 - (Kn : Int))))]) hx hb dX7_bitsOfShare_43 hl (k := 2) rfl (n_inc k 1 rfl) (by decide) rfl (fun ls hl => ?_)
        refine lv_goto (tgt := 18) hx hb dX7_bitsOfShare_46 (by decide) ?_
        have e_6 : ((Int64.ofNat (1023 - k)) - 1) = Int64.ofNat (1023 - (k + 1)) := (ex_dec (by omega))
        have e_7 : (FP.dmul (dU false cm (-52 - (Kn : Int) + ((k : Nat) : Int))) (4611686018427387904 : UInt64)) = dU false cm (-52 - (Kn : Int) + (((k + 1) : Nat) : Int)) := (by rw [fp_dbl hc1 hc2 (by omega) (by omega)]; exact congrArg (dU false cm) (by omega))
        exact ih18 (k + 1) (by omega) (by omega) _ _ _ rfl e_6 e_7 _ _ hP hD hS _ (lv_sub hl [0, 1, 2, 3] rfl)
  exact L18 (Kn + 1) 0 (by omega) (by omega) _ _ _ rfl rfl (congrArg (dU false cm) (by omega)) _ _ hP hD hS _ (lv_sub hl [0, 1, 2, 3] rfl)
theorem c_X7_bitsOfShare (l : Launch) (G : va_G) (T : Nat → ClassId) (sz : Nat) (x : UInt64) (hbs : bsOk x) : RWl l yX7_bitsOfShare wsX7_bitsOfShare 0 0 0 G T sz ([]) [.double x] (x.toInt64) ([]) := by
  rcases hbs with rfl | ⟨cm, q, rfl, h1, h2, h3, h4⟩
  · exact c_X7_bitsOfShare_0 l G T sz
  · obtain ⟨Kn, hK, rfl⟩ : ∃ Kn : Nat, Kn ≤ 63 ∧ q = -52 - (Kn : Int) := ⟨(-52 - q).toNat, by omega, by omega⟩
    exact c_X7_bitsOfShare_1 l G T sz cm Kn h1 h2 hK
