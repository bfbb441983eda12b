/-! what holds between two calls of the law: the class's and the reference's contents belong together -/
def JT (X Z : Nat → Nat → Int32) (n : Nat) (cd : Nat → Nat) : Prop := X 0 1 = nI n ∧ Z 0 7 = nI n ∧ n ≤ 60 ∧ (∀ i : Nat, i < n → X 1 i = nI (cd i)) ∧ (∀ i : Nat, i < n → Z 7 i = nI (cd i)) ∧ ∀ i : Nat, i < n → cd i < 127
def JI (B : Nat) (Sw S Zs Sh : Nat → Nat → Int32) (Hs : Nat → Nat → Nat → Int32) (X Z : Nat → Nat → Int32) (o nh n : Nat) (cd : Nat → Nat) : Prop :=
  (RS S (Z 2) ∧ SI B S) ∧ (Sh 0 1 = nI o ∧ Sh 0 2 = nI nh ∧ o < 6 ∧ nh ≤ 6 ∧ Z 0 3 = nI nh ∧ HR B o nh Hs (Z 3)) ∧
  ((Sw 0 8 = nI 0 ∧ Z 0 5 = bI false) ∨ (Sw 0 8 = nI 1 ∧ Z 0 5 = bI true ∧ SI B Zs ∧ RS Zs (Z 5))) ∧ JT X Z n cd ∧ Z 0 13 = nI (nOf (Z 0 13)) ∧ nOf (Z 0 13) ≤ 9
def JX (B : Nat) (c : CC) (Z : Nat → Nat → Int32) : Prop := ∃ (o nh n : Nat) (cd : Nat → Nat), JI B c.1 c.2.1 c.2.2.1 c.2.2.2.1 c.2.2.2.2.1 c.2.2.2.2.2.1 Z o nh n cd
section JIP
variable {B : Nat} {Sw S Zs Sh : Nat → Nat → Int32} {Hs : Nat → Nat → Nat → Int32} {X Z Z' S' X' Sw' Zs' : Nat → Nat → Int32} {o nh n n' : Nat} {cd cd' : Nat → Nat}
theorem JT.same (h : JT X Z n cd) (h7 : Z' 7 = Z 7) (h07 : Z' 0 7 = Z 0 7) : JT X Z' n cd := by
  obtain ⟨a, b, c, d, e, f⟩ := h
  exact ⟨a, by rw [h07]; exact b, c, d, by rw [h7]; exact e, f⟩
theorem JT.zero (h1 : X' 0 1 = nI 0) (h2 : Z' 0 7 = nI 0) : JT X' Z' 0 cd := ⟨h1, h2, by decide, fun i hi => absurd hi (Nat.not_lt_zero i), fun i hi => absurd hi (Nat.not_lt_zero i), fun i hi => absurd hi (Nat.not_lt_zero i)⟩
theorem good13 {k : Nat} (h : k ≤ 9) : nI k = nI (nOf (nI k)) ∧ nOf (nI k) ≤ 9 := by
  rw [nOf_n (by omega)]
  exact ⟨rfl, h⟩
theorem JI.keep (hJ : JI B Sw S Zs Sh Hs X Z o nh n cd) (h2 : Z' 2 = Z 2) (h3 : Z' 3 = Z 3) (h5 : Z' 5 = Z 5) (h03 : Z' 0 3 = Z 0 3) (h05 : Z' 0 5 = Z 0 5) (ht : JT X' Z' n' cd') (h13 : Z' 0 13 = nI (nOf (Z' 0 13)) ∧ nOf (Z' 0 13) ≤ 9) : JI (B + 100) Sw S Zs Sh Hs X' Z' o nh n' cd' := by
  obtain ⟨⟨hR, hI⟩, ⟨a1, a2, a3, a4, a5, a6⟩, hs, -, -⟩ := hJ
  refine ⟨⟨by rw [h2]; exact hR, hI.mono (by omega)⟩, ⟨a1, a2, a3, a4, by rw [h03]; exact a5, by rw [h3]; exact a6.mono (by omega)⟩, ?_, ht, h13⟩
  rw [h05, h5]
  rcases hs with hs | ⟨s1, s2, s3, s4⟩
  · exact Or.inl hs
  · exact Or.inr ⟨s1, s2, s3.mono (by omega), s4⟩
theorem JI.op (hJ : JI B Sw S Zs Sh Hs X Z o nh n cd) (hR : RS S' (Z' 2)) (hI : SI (B + 100) S') (h3 : Z' 3 = mSvF (Z 3) (Z 2) nh) (h03 : Z' 0 3 = nI (mSvN nh)) (h5 : Z' 5 = Z 5) (h05 : Z' 0 5 = Z 0 5) (ht : JT X' Z' n' cd') (h13 : Z' 0 13 = nI (nOf (Z' 0 13)) ∧ nOf (Z' 0 13) ≤ 9) : JI (B + 100) Sw S' Zs (sc (sc Sh 1 (nI (hPo o nh))) 2 (nI (hPn nh))) (updS Hs (hPi o nh) S) X' Z' (hPo o nh) (hPn nh) n' cd' := by
  obtain ⟨⟨hR0, hI0⟩, ⟨a1, a2, a3, a4, a5, a6⟩, hs, -, -⟩ := hJ
  refine ⟨⟨hR, hI⟩, ⟨rfl, rfl, hPo_lt a3, ?_, by rw [h03, hPn_sv], by rw [h3]; exact (a6.save a3 a4 hI0 hR0).mono (by omega)⟩, ?_, ht, h13⟩
  · rw [hPn_sv]; exact mSvN_le a4
  rw [h05, h5]
  rcases hs with hs | ⟨s1, s2, s3, s4⟩
  · exact Or.inl hs
  · exact Or.inr ⟨s1, s2, s3.mono (by omega), s4⟩
theorem JI.undo (hJ : JI B Sw S Zs Sh Hs X Z o nh n cd) (h0 : 0 < nh) (h2 : Z' 2 = mCp (Z 3) (Z 2) 0 ((nh - 1) * 267) 267) (h3 : Z' 3 = Z 3) (h03 : Z' 0 3 = nI (nh - 1)) (h5 : Z' 5 = Z 5) (h05 : Z' 0 5 = Z 0 5) (ht : JT X' Z' n' cd') (h13 : Z' 0 13 = nI (nOf (Z' 0 13)) ∧ nOf (Z' 0 13) ≤ 9) : JI (B + 100) Sw (Hs ((o + (nh - 1)) % 6)) Zs (sc Sh 2 (nI (nh - 1))) Hs X' Z' o (nh - 1) n' cd' := by
  obtain ⟨⟨hR0, hI0⟩, ⟨a1, a2, a3, a4, a5, a6⟩, hs, -, -⟩ := hJ
  obtain ⟨⟨u1, u2⟩, u3⟩ := a6.undo (st := Z 2) h0
  refine ⟨⟨by rw [h2]; exact u2, u1.mono (by omega)⟩, ⟨a1, rfl, a3, by omega, h03, by rw [h3]; exact u3.mono (by omega)⟩, ?_, ht, h13⟩
  rw [h05, h5]
  rcases hs with hs | ⟨s1, s2, s3, s4⟩
  · exact Or.inl hs
  · exact Or.inr ⟨s1, s2, s3.mono (by omega), s4⟩
theorem RS.copy {st su : Nat → Int32} (hR : RS S st) (hI : SI B S) : RS S (mCp st su 0 0 267) := hR.cong hI (fun j hj => by
  have h := mCp_in st su 0 0 267 j hj
  rw [Nat.zero_add] at h
  exact h)
theorem wi_bt (x : Int32) {k : Nat} (hk : k + 1 < 2 ^ 31) : pBt x (k + 1) = pWi x (nI 0) (nI k) := by
  unfold pBt pWi
  refine decide_eq_decide.mpr ?_
  rw [nI_0, Int32.le_iff_toInt_le, Int32.lt_iff_toInt_lt (x := nI k), nI_toInt hk, nI_toInt (by omega)]
  constructor
  · rintro ⟨a, b⟩
    exact ⟨a, by omega⟩
  · rintro ⟨a, b⟩
    exact ⟨a, by omega⟩
theorem wi2 (x : Int32) : pWi x (nI 0) (nI 1) = pBt x 2 := (wi_bt x (k := 1) (by decide)).symm
theorem wi3 (x : Int32) : pWi x (nI 0) (nI 2) = pBt x 3 := (wi_bt x (k := 2) (by decide)).symm
theorem wi4 (x : Int32) : pWi x (nI 0) (nI 3) = pBt x 4 := (wi_bt x (k := 3) (by decide)).symm
theorem wi6 (x : Int32) : pWi x (nI 0) (nI 5) = pBt x 6 := (wi_bt x (k := 5) (by decide)).symm
theorem wi7 (x : Int32) : pWi x (nI 0) (nI 6) = pBt x 7 := (wi_bt x (k := 6) (by decide)).symm
theorem wi8 (x : Int32) : pWi x (nI 0) (nI 7) = pBt x 8 := (wi_bt x (k := 7) (by decide)).symm
theorem wi14 (x : Int32) : pWi x (nI 0) (nI 13) = pBt x 14 := (wi_bt x (k := 13) (by decide)).symm
theorem wi20 (x : Int32) : pWi x (nI 0) (nI 19) = pBt x 20 := (wi_bt x (k := 19) (by decide)).symm
theorem wi_N {x : Int32} {a b : Nat} (hb : b < 2 ^ 31) (hab : a ≤ b) (h : pWi x (nI a) (nI b) = true) : ∃ k : Nat, a ≤ k ∧ k ≤ b ∧ x = nI k := by
  obtain ⟨h1, h2⟩ := of_decide_eq_true h
  rw [Int32.lt_iff_toInt_lt, nI_toInt (by omega)] at h1
  rw [Int32.lt_iff_toInt_lt, nI_toInt hb] at h2
  refine ⟨x.toInt.toNat, by omega, by omega, ?_⟩
  refine Int32.toInt_inj.mp ?_
  rw [nI_toInt (by omega)]
  omega
theorem updL_at (f : Nat → Int64) (x : Int64) : vp_updL f 0 x 0 = x := if_pos rfl
theorem zadd32 (x : Int32) : nI 0 + x = x := Int32.zero_add x
end JIP
abbrev wO (T : Nat → ClassId) (ao : Nat) (f : Nat → Int64) : va_W := [(ao, .inl (T 3, 1, .inr (.inl f)))]
/-- a call of a wrapper and the reference's: alike -/
def STp (l : Launch) (G : va_G) (T : Nat → ClassId) (a : CA) (ao : Nat) (q : Nat → Nat) (yL : MethodName) (wL : List Cond) (yX : MethodName) (wX : List Cond) (dX : Nat) (aL aX : List Value) (B : Nat) (f : Nat → Int64) (c : CC) (Z : Nat → Nat → Int32) : Prop :=
  ∃ (d : Nat) (v b : Int32) (f' : Nat → Int64) (c' : CC) (Z' : Nat → Nat → Int32), d ≤ 15 ∧ (∀ sz : Nat, RWx l yL wL d G T sz (wO T ao f ++ oC T a c) aL v (wO T ao f' ++ oC T a c')) ∧ (∀ (sz : Nat) (g : Int64), RWi l yX wX dX 0 0 G T sz (oX8 T q Z g) aX b (oX8 T q Z' g)) ∧ Z' 0 0 = v ∧ (v = nI 0 → f' 0 = b.toInt64) ∧ JX (B + 100) c' Z'
/-- a call of the class itself and the reference's: alike -/
def STd (l : Launch) (G : va_G) (T : Nat → ClassId) (a : CA) (q : Nat → Nat) (yL : MethodName) (wL : List Cond) (dL : Nat) (yX : MethodName) (wX : List Cond) (dX : Nat) (B : Nat) (c : CC) (Z : Nat → Nat → Int32) : Prop :=
  ∃ (v b : Int32) (c' : CC) (Z' : Nat → Nat → Int32), (∀ sz : Nat, RWi l yL wL dL 0 0 G T sz (oC T a c) [.ref (a.1 0)] v (oC T a c')) ∧ (∀ (sz : Nat) (g : Int64), RWi l yX wX dX 0 0 G T sz (oX8 T q Z g) [.ref (q 0)] b (oX8 T q Z' g)) ∧ v = b ∧ JX (B + 100) c' Z'
