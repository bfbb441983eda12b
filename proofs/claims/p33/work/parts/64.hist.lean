theorem mCp_in (a b : Nat → Int32) (d s n k : Nat) (h : k < n) : mCp a b d s n (d + k) = a (s + k) := by
  induction n with
  | zero => omega
  | succ n ih =>
    show upd _ _ _ (d + k) = _
    by_cases hk : k = n
    · subst hk; exact upd_at
    · rw [upd_no (by omega)]; exact ih (by omega)
theorem mCp_out (a b : Nat → Int32) (d s n j : Nat) (h : j < d ∨ d + n ≤ j) : mCp a b d s n j = b j := by
  induction n with
  | zero => rfl
  | succ n ih =>
    show upd _ _ _ j = _
    rw [upd_no (by omega)]; exact ih (by omega)
theorem mSh_in (f : Nat → Int32) (n : Nat) : (∀ j, j < n → mSh0 f n j = f (j + 267)) ∧ ∀ j, n ≤ j → mSh0 f n j = f j := by
  induction n with
  | zero => exact ⟨fun j h => by omega, fun j _ => rfl⟩
  | succ n ih =>
    refine ⟨fun j h => ?_, fun j h => ?_⟩
    · show upd _ _ _ j = _
      by_cases hj : j = n
      · subst hj
        rw [upd_at]; exact ih.2 _ (by omega)
      · rw [upd_no hj]; exact ih.1 j (by omega)
    · show upd _ _ _ j = _
      rw [upd_no (by omega)]; exact ih.2 j (by omega)
theorem updS_at {Hs : Nat → Nat → Nat → Int32} {i : Nat} {S : Nat → Nat → Int32} : updS Hs i S i = S := by
  unfold updS
  rw [Nat.beq_refl]
  rfl
theorem updS_no {Hs : Nat → Nat → Nat → Int32} {i j : Nat} {S : Nat → Nat → Int32} (h : j ≠ i) : updS Hs i S j = Hs j := by
  unfold updS
  rw [show Nat.beq j i = false from Bool.eq_false_iff.mpr (fun q => h (Nat.eq_of_beq_eq_true q))]
  rfl
theorem RS.cong {B : Nat} {S : Nat → Nat → Int32} {st su : Nat → Int32} (hR : RS S st) (hI : SI B S) (h : ∀ j, j < 267 → su j = st j) : RS S su := by
  obtain ⟨a, b, c, d, e, f, g, i, j⟩ := hR
  refine ⟨?_, fun r hr => ?_, fun m hm => ?_, fun m k hm hk => ?_, fun k hk => ?_, fun k hk => ?_, fun o i ho hi => ?_, fun r hr => ?_, ?_⟩
  · simp (disch := omega) only [h]; exact a
  · simp (disch := omega) only [h]; exact b r hr
  · simp (disch := omega) only [h]; exact c m hm
  · have h8 := (hI.2.2.2.2.2.2.1 m hm).1.2.1
    rw [h _ (by omega)]; exact d m k hm hk
  · simp (disch := omega) only [h]; exact e k hk
  · simp (disch := omega) only [h]; exact f k hk
  · simp (disch := omega) only [h]; exact g o i ho hi
  · simp (disch := omega) only [h]; exact i r hr
  · simp (disch := omega) only [h]; exact j
/-- the schools kept in the ring and the rows kept -/
def HR (B o n : Nat) (Hs : Nat → Nat → Nat → Int32) (F : Nat → Int32) : Prop := ∀ k, k < n → SI B (Hs ((o + k) % 6)) ∧ RS (Hs ((o + k) % 6)) (fun j => F (k * 267 + j))
theorem hPo_lt {o n : Nat} (ho : o < 6) : hPo o n < 6 := by unfold hPo; split <;> omega
theorem hPn_sv (n : Nat) : hPn n = mSvN n := by unfold hPn mSvN; split <;> omega
theorem HR.save {B o n : Nat} {Hs : Nat → Nat → Nat → Int32} {F : Nat → Int32} {S : Nat → Nat → Int32} {st : Nat → Int32} (hH : HR B o n Hs F) (ho : o < 6) (hn : n ≤ 6) (hI : SI B S) (hR : RS S st) : HR B (hPo o n) (hPn n) (updS Hs (hPi o n) S) (mSvF F st n) := by
  intro k hk
  by_cases h6 : n = 6
  · obtain ⟨e1, e2, e3⟩ := hP_a (o := o) h6
    rw [e2] at hk
    rw [e1, e3]
    unfold mSvF
    rw [if_pos h6]
    by_cases h5 : k = 5
    · rw [show ((o + 1) % 6 + (n - 1)) % 6 = ((o + 1) % 6 + k) % 6 by omega, updS_at]
      refine ⟨hI, hR.cong hI (fun j hj => ?_)⟩
      show mCp st (mSh0 F 1335) (5 * 267) 0 267 (k * 267 + j) = st j
      rw [show k * 267 + j = 5 * 267 + j by omega, mCp_in _ _ _ _ _ _ hj, Nat.zero_add]
    · rw [updS_no (by omega), show ((o + 1) % 6 + k) % 6 = (o + (k + 1)) % 6 by omega]
      obtain ⟨i1, r1⟩ := hH (k + 1) (by omega)
      refine ⟨i1, r1.cong i1 (fun j hj => ?_)⟩
      show mCp st (mSh0 F 1335) (5 * 267) 0 267 (k * 267 + j) = F ((k + 1) * 267 + j)
      rw [mCp_out _ _ _ _ _ _ (by omega), (mSh_in F 1335).1 _ (by omega), show k * 267 + j + 267 = (k + 1) * 267 + j by omega]
  · obtain ⟨e1, e2, e3⟩ := hP_b (o := o) h6
    rw [e2] at hk
    rw [e1, e3]
    unfold mSvF
    rw [if_neg h6]
    by_cases h5 : k = n
    · rw [h5, updS_at]
      refine ⟨hI, hR.cong hI (fun j hj => ?_)⟩
      show mCp st F (n * 267) 0 267 (n * 267 + j) = st j
      rw [mCp_in _ _ _ _ _ _ hj, Nat.zero_add]
    · rw [updS_no (by omega)]
      obtain ⟨i1, r1⟩ := hH k (by omega)
      refine ⟨i1, r1.cong i1 (fun j hj => ?_)⟩
      show mCp st F (n * 267) 0 267 (k * 267 + j) = F (k * 267 + j)
      rw [mCp_out _ _ _ _ _ _ (by omega)]
theorem HR.undo {B o n : Nat} {Hs : Nat → Nat → Nat → Int32} {F st : Nat → Int32} (hH : HR B o n Hs F) (hn : 0 < n) : (SI B (Hs ((o + (n - 1)) % 6)) ∧ RS (Hs ((o + (n - 1)) % 6)) (mCp F st 0 ((n - 1) * 267) 267)) ∧ HR B o (n - 1) Hs F := by
  refine ⟨?_, fun k hk => hH k (by omega)⟩
  obtain ⟨i1, r1⟩ := hH (n - 1) (by omega)
  refine ⟨i1, r1.cong i1 (fun j hj => ?_)⟩
  have h := mCp_in F st 0 ((n - 1) * 267) 267 j hj
  rw [Nat.zero_add] at h
  exact h

