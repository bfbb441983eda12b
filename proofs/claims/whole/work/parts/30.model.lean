/-! the reference's reading methods: what they answer (pure), then their contracts (printed by wip/whole/s30.py). Z 0 its numbers (0 thrown, 3 savedMany, 5 hasSnapshot, 7 length, 8 at, 9 sign, 10 first, 11 second, 13 many), Z 2 state, Z 3 saved, Z 5 snapshot, Z 7 buffer, Z 13 tune, Z 15 open -/
def pWi (v a b : Int32) : Bool := decide (¬ v < a ∧ ¬ b < v)
def mOn (x : Int32) : Nat → Int32 | 0 => nI 0 | k + 1 => mOn x k + (iShr x (nI k) &&& nI 1)
def mNx (Z : Nat → Nat → Int32) (a L : Nat) : Int32 := if a < L then Z 7 a else nI 0
def mNo (c : Int32) : Int32 := if c = nI 99 then nI 0 else if c = nI 100 then nI 1 else if c = nI 101 then nI 2 else if c = nI 102 then nI 3 else if c = nI 103 then nI 4 else if c = nI 97 then nI 5 else if c = nI 104 then nI 6 else -1
def mShT (Z : Nat → Nat → Int32) (k : Nat) : Int32 := iRem (Z 13 k - Z 13 0 + nI 7) (nI 7)
def mSh (Z : Nat → Nat → Int32) (m k : Nat) : Int32 := iRem (Z 2 (47 + 11 * m + (3 + k)) - Z 2 (47 + 11 * m + 3) + nI 7) (nI 7)
def mHSl (Z : Nat → Nat → Int32) (m n : Nat) : Nat → Bool | 0 => decide (Z 2 (47 + 11 * m) = nI n) | k + 1 => mHSl Z m n k && decide (mSh Z m k = mShT Z k)
theorem mHSl_f {Z : Nat → Nat → Int32} {m n k : Nat} (h : mHSl Z m n k = false) : ∀ j, k ≤ j → mHSl Z m n j = false := by
  intro j hj
  induction j with
  | zero => obtain rfl : k = 0 := by omega
            exact h
  | succ j ih =>
    rcases Nat.lt_or_ge j k with q | q
    · obtain rfl : k = j + 1 := by omega
      exact h
    · simp [mHSl, ih q]
def mHS (Z : Nat → Nat → Int32) (m n : Nat) : Bool := mHSl Z m n n
def mTu (Z : Nat → Nat → Int32) : Bool := pWi (Z 0 13) (nI 2) (nI 8)
def mWc (Z : Nat → Nat → Int32) (m n : Nat) : Nat → Bool | 0 => false | k + 1 => mWc Z m n k || (!decide (k = m) && mHS Z k n)
theorem mWc_t {Z : Nat → Nat → Int32} {m n k : Nat} (h : mWc Z m n k = true) : ∀ j, k ≤ j → mWc Z m n j = true := by
  intro j hj
  induction j with
  | zero => obtain rfl : k = 0 := by omega
            exact h
  | succ j ih =>
    rcases Nat.lt_or_ge j k with q | q
    · obtain rfl : k = j + 1 := by omega
      exact h
    · simp [mWc, ih q]
def mWT (Z : Nat → Nat → Int32) (m n : Nat) : Int32 := if mTu Z then (if mWc Z m n 20 then nI 4 else nI 0) else nI 3
def mFind (P : Nat → Bool) : Nat → Nat → Int32 | 0, _ => -1 | j + 1, k => if P k then nI k else mFind P j (k + 1)
def mDeP (Z : Nat → Nat → Int32) (n : Nat) (key : Int32) (m : Nat) : Bool := mTu Z && (mHS Z m n && decide (Z 2 (47 + 11 * m + 3) = iRem (Z 13 0 - key + nI 7) (nI 7)))
def mDe (Z : Nat → Nat → Int32) (n : Nat) (key : Int32) : Int32 := mFind (mDeP Z n key) 20 0
def mBA (Z : Nat → Nat → Int32) (m o n : Nat) : Nat → Bool | 0 => !decide (Z 2 (47 + 11 * o) < nI n) | k + 1 => mBA Z m o n k && decide (mSh Z m k = mSh Z o k)
theorem mBA_f {Z : Nat → Nat → Int32} {m o n k : Nat} (h : mBA Z m o n k = false) : ∀ j, k ≤ j → mBA Z m o n j = false := by
  intro j hj
  induction j with
  | zero => obtain rfl : k = 0 := by omega
            exact h
  | succ j ih =>
    rcases Nat.lt_or_ge j k with q | q
    · obtain rfl : k = j + 1 := by omega
      exact h
    · simp [mBA, ih q]
def mApart (f o : Nat) : Nat := if f < o then o - f else f - o
theorem mApart_lt {f o : Nat} (h : f < 3) (h2 : o < 3) : mApart f o < 3 := by unfold mApart; split <;> omega
def mNear (Z : Nat → Nat → Int32) (f o : Nat) : Bool := decide (¬ Z 2 3 < nI (mApart f o))
def mF1 (Z : Nat → Nat → Int32) (f : Nat) : Nat → Int32 | 0 => nI 0 | k + 1 => mF1 Z f k ||| (if mNear Z k f then iShl (nI 1) (nI k) else nI 0)
def mPs (Z : Nat → Nat → Int32) (x : Int32) (k : Nat) : Bool := !decide ((x &&& Z 2 2) &&& iShl (nI 1) (nI (k / 3 % 3)) = 0)
def mF2 (Z : Nat → Nat → Int32) (f : Nat) : Nat → Int32 | 0 => mF1 Z f 3 | k + 1 => mF2 Z f k ||| (if mPs Z (mF2 Z f k) k && mNear Z (k / 3 % 3) (k % 3) then iShl (nI 1) (nI (k % 3)) else nI 0)
def mHe (Z : Nat → Nat → Int32) (r : Nat) : Nat → Int32 | 0 => nI 0 | k + 1 => mHe Z r k ||| (if !decide (k = r) && decide (iShr (mF2 Z (r / 2) 27) (nI (k / 2)) &&& nI 1 = nI 1) then iShl (nI 1) (nI k) else nI 0)
def mKn (Z : Nat → Nat → Int32) (r : Nat) : Nat → Int32 | 0 => mHe Z r 6 | k + 1 => mKn Z r k &&& (if Z 2 (14 + 5 * k) = Z 2 (14 + 5 * r) then mKn Z r k else iShl (nI 1) (nI k) ^^^ -1)
def mCaB (Z : Nat → Nat → Int32) (r m k : Nat) : Bool := decide (iShr (mF2 Z (r / 2) 27) (iRem (nI k + Z 2 0) (nI 3)) &&& nI 1 = nI 1) && decide (iShr (Z 2 (44 + k)) (nI m) &&& nI 1 = nI 1)
def mCa (Z : Nat → Nat → Int32) (r m : Nat) : Nat → Int32 | 0 => nI 0 | k + 1 => mCa Z r m k ||| (if mCaB Z r m k then iShl (nI 1) (nI k) else nI 0)
def mRa (Z : Nat → Nat → Int32) (r m : Nat) : Int32 := if 12 ≤ m ∧ Z 2 (14 + 5 * r) = Z 2 1 then mKn Z r 6 else nI 0
def mSi (Z : Nat → Nat → Int32) (r : Nat) : Bool := !decide (Z 2 (14 + 5 * r + 1) < Z 2 4)
def mWy (Z : Nat → Nat → Int32) (r m : Nat) : Int32 := if mSi Z r then nI 1 else if Z 2 (47 + 11 * m) = 0 then nI 2 else nI 0
theorem mTu_le {Z : Nat → Nat → Int32} {n : Nat} (h : Z 0 13 = nI n) (h9 : n ≤ 9) (ht : mTu Z = true) : n ≤ 8 := by
  simp only [mTu, pWi, h, decide_eq_true_eq] at ht
  rcases Nat.lt_or_ge 8 n with q | q
  · exact absurd (nI_lt q (by omega)) ht.2
  · exact q
theorem mFind_n {P : Nat → Bool} {N k : Nat} (hk : k < N) (h : P k = false) : mFind P (N - k) k = mFind P (N - (k + 1)) (k + 1) := by
  rw [show N - k = (N - (k + 1)) + 1 by omega]
  simp [mFind, h]
theorem mFind_y {P : Nat → Bool} {N k : Nat} (hk : k < N) (h : P k = true) : mFind P (N - k) k = nI k := by
  rw [show N - k = (N - (k + 1)) + 1 by omega]
  simp [mFind, h]

set_option maxHeartbeats 4000000 in
set_option maxRecDepth 100000 in
theorem c_X8_within (l : Launch) (G : va_G) (T : Nat → ClassId) (A : Nat → Prop) (v : Int32) (a : Int32) (b : Int32) : RO l yX8_within wsX8_within 0 G T A ([]) [.int v, .int a, .int b] (bI (pWi v a b)) := by
  refine Met.ofW (cc := cX8_within) (maxL := 3) (ret := (some .boolean)) (by decide) rfl ?_
  intro p e s m args below meth c s₁ B hml hv
  obtain ⟨ha, hP, hK, hE⟩ := hv
  have hx := B.exec
  have hb := B.bytes
  have hr := B.returns
  have hlocks := B.notSynchronized
  have hts := atoms_spec (ws := wsX8_within) B.pre
  have hown : s.vm.findClass RX8 = some m.cls := findClass_of_methodNamed B.named
  have cx : CallFix p m c cX8_within 3 s args wsX8_within RX8 := ⟨hx, hb, hml, hown, hts⟩
  refine w_entry ha (Nat.le_of_ble_eq_true rfl) (fun ls hl => ?_)
  refine w_q (fun Q0 hQ => ?_)
  have hl : lv_has ls 3 [(0, .int v), (1, .int a), (2, .int b)] := hl
  have hP : va_P G vwCl [] s.heap := hP
  refine lv_iload_n hx hb dX8_within_0 rfl (lv_at hl 0 rfl) ?_
  refine lv_iload_n hx hb dX8_within_1 rfl (lv_at hl 1 rfl) ?_
  refine lv_icmp_lt (tgt := 14) hx hb dX8_within_2 (by decide) (fun c_1 => ?_) (fun c_2 => ?_)
  · skip
    refine n_iconst hx hb 0 dX8_within_14 (by decide) ?_
    subst hQ
    exact e_roz hx hb hr hlocks (by first | rfl | exact nar_b _) (by simp [pWi, bI, c_1]) dX8_within_15
  · skip
    refine lv_iload_n hx hb dX8_within_5 rfl (lv_at hl 0 rfl) ?_
    refine lv_iload_n hx hb dX8_within_6 rfl (lv_at hl 2 rfl) ?_
    refine lv_icmp_gt (tgt := 14) hx hb dX8_within_7 (by decide) (fun c_3 => ?_) (fun c_4 => ?_)
    · skip
      refine n_iconst hx hb 0 dX8_within_14 (by decide) ?_
      subst hQ
      exact e_roz hx hb hr hlocks (by first | rfl | exact nar_b _) (by simp [pWi, bI, c_2, c_3]) dX8_within_15
    · skip
      refine n_iconst hx hb 1 dX8_within_10 (by decide) ?_
      refine lv_goto (tgt := 15) hx hb dX8_within_11 (by decide) ?_
      subst hQ
      exact e_roz hx hb hr hlocks (by first | rfl | exact nar_b _) (by simp [pWi, bI, c_2, c_4]) dX8_within_15
set_option maxHeartbeats 4000000 in
set_option maxRecDepth 100000 in
theorem c_X8_isMessage (l : Launch) (G : va_G) (T : Nat → ClassId) (A : Nat → Prop) (v : Int32) : RO l yX8_isMessage wsX8_isMessage 1 G T A ([]) [.int v] (bI (pWi v (nI 0) (nI 19))) := by
  refine Met.ofW (cc := cX8_isMessage) (maxL := 1) (ret := (some .boolean)) (by decide) rfl ?_
  intro p e s m args below meth c s₁ B hml hv
  obtain ⟨ha, hP, hK, hE⟩ := hv
  have hx := B.exec
  have hb := B.bytes
  have hr := B.returns
  have hlocks := B.notSynchronized
  have hts := atoms_spec (ws := wsX8_isMessage) B.pre
  have hown : s.vm.findClass RX8 = some m.cls := findClass_of_methodNamed B.named
  have cx : CallFix p m c cX8_isMessage 1 s args wsX8_isMessage RX8 := ⟨hx, hb, hml, hown, hts⟩
  refine w_entry ha (Nat.le_of_ble_eq_true rfl) (fun ls hl => ?_)
  refine w_q (fun Q0 hQ => ?_)
  have hl : lv_has ls 1 [(0, .int v)] := hl
  have hP : va_P G vwCl [] s.heap := hP
  refine lv_iload_n hx hb dX8_isMessage_0 rfl (lv_at hl 0 rfl) ?_
  refine n_iconst hx hb 0 dX8_isMessage_1 (by decide) ?_
  refine lv_bipush (v := nI 19) hx hb dX8_isMessage_2 (by decide) ?_
  refine k_roS (As := [.int v, .int (nI 0), .int (nI 19)]) (rest := []) (wc := []) (d := 0) (v := bI (pWi v (nI 0) (nI 19))) cx (c_X8_within l G T A v (nI 0) (nI 19) ) (va_cwS 3 hts gX8_isMessage_X8_within rfl rfl rfl (by decide +kernel) ⟨Nat.le_of_ble_eq_true rfl, Nat.le_of_ble_eq_true rfl⟩) hP hK hE rfl hl.1 rfl (Nat.le_of_ble_eq_true rfl) dX8_isMessage_4 ⟨Nat.le_of_ble_eq_true rfl, Nat.le_of_ble_eq_true rfl⟩ ?_
  subst hQ
  exact e_roz hx hb hr hlocks (by first | rfl | exact nar_b _) rfl dX8_isMessage_7
set_option maxHeartbeats 4000000 in
set_option maxRecDepth 100000 in
theorem c_X8_isRoom (l : Launch) (G : va_G) (T : Nat → ClassId) (A : Nat → Prop) (v : Int32) : RO l yX8_isRoom wsX8_isRoom 1 G T A ([]) [.int v] (bI (pWi v (nI 0) (nI 5))) := by
  refine Met.ofW (cc := cX8_isRoom) (maxL := 1) (ret := (some .boolean)) (by decide) rfl ?_
  intro p e s m args below meth c s₁ B hml hv
  obtain ⟨ha, hP, hK, hE⟩ := hv
  have hx := B.exec
  have hb := B.bytes
  have hr := B.returns
  have hlocks := B.notSynchronized
  have hts := atoms_spec (ws := wsX8_isRoom) B.pre
  have hown : s.vm.findClass RX8 = some m.cls := findClass_of_methodNamed B.named
  have cx : CallFix p m c cX8_isRoom 1 s args wsX8_isRoom RX8 := ⟨hx, hb, hml, hown, hts⟩
  refine w_entry ha (Nat.le_of_ble_eq_true rfl) (fun ls hl => ?_)
  refine w_q (fun Q0 hQ => ?_)
  have hl : lv_has ls 1 [(0, .int v)] := hl
  have hP : va_P G vwCl [] s.heap := hP
  refine lv_iload_n hx hb dX8_isRoom_0 rfl (lv_at hl 0 rfl) ?_
  refine n_iconst hx hb 0 dX8_isRoom_1 (by decide) ?_
  refine n_iconst hx hb 5 dX8_isRoom_2 (by decide) ?_
  refine k_roS (As := [.int v, .int (nI 0), .int (nI 5)]) (rest := []) (wc := []) (d := 0) (v := bI (pWi v (nI 0) (nI 5))) cx (c_X8_within l G T A v (nI 0) (nI 5) ) (va_cwS 3 hts gX8_isRoom_X8_within rfl rfl rfl (by decide +kernel) ⟨Nat.le_of_ble_eq_true rfl, Nat.le_of_ble_eq_true rfl⟩) hP hK hE rfl hl.1 rfl (Nat.le_of_ble_eq_true rfl) dX8_isRoom_3 ⟨Nat.le_of_ble_eq_true rfl, Nat.le_of_ble_eq_true rfl⟩ ?_
  subst hQ
  exact e_roz hx hb hr hlocks (by first | rfl | exact nar_b _) rfl dX8_isRoom_6
set_option maxHeartbeats 4000000 in
set_option maxRecDepth 100000 in
theorem c_X8_isKey (l : Launch) (G : va_G) (T : Nat → ClassId) (A : Nat → Prop) (v : Int32) : RO l yX8_isKey wsX8_isKey 1 G T A ([]) [.int v] (bI (pWi v (nI 0) (nI 6))) := by
  refine Met.ofW (cc := cX8_isKey) (maxL := 1) (ret := (some .boolean)) (by decide) rfl ?_
  intro p e s m args below meth c s₁ B hml hv
  obtain ⟨ha, hP, hK, hE⟩ := hv
  have hx := B.exec
  have hb := B.bytes
  have hr := B.returns
  have hlocks := B.notSynchronized
  have hts := atoms_spec (ws := wsX8_isKey) B.pre
  have hown : s.vm.findClass RX8 = some m.cls := findClass_of_methodNamed B.named
  have cx : CallFix p m c cX8_isKey 1 s args wsX8_isKey RX8 := ⟨hx, hb, hml, hown, hts⟩
  refine w_entry ha (Nat.le_of_ble_eq_true rfl) (fun ls hl => ?_)
  refine w_q (fun Q0 hQ => ?_)
  have hl : lv_has ls 1 [(0, .int v)] := hl
  have hP : va_P G vwCl [] s.heap := hP
  refine lv_iload_n hx hb dX8_isKey_0 rfl (lv_at hl 0 rfl) ?_
  refine n_iconst hx hb 0 dX8_isKey_1 (by decide) ?_
  refine lv_bipush (v := nI 6) hx hb dX8_isKey_2 (by decide) ?_
  refine k_roS (As := [.int v, .int (nI 0), .int (nI 6)]) (rest := []) (wc := []) (d := 0) (v := bI (pWi v (nI 0) (nI 6))) cx (c_X8_within l G T A v (nI 0) (nI 6) ) (va_cwS 3 hts gX8_isKey_X8_within rfl rfl rfl (by decide +kernel) ⟨Nat.le_of_ble_eq_true rfl, Nat.le_of_ble_eq_true rfl⟩) hP hK hE rfl hl.1 rfl (Nat.le_of_ble_eq_true rfl) dX8_isKey_4 ⟨Nat.le_of_ble_eq_true rfl, Nat.le_of_ble_eq_true rfl⟩ ?_
  subst hQ
  exact e_roz hx hb hr hlocks (by first | rfl | exact nar_b _) rfl dX8_isKey_7
set_option maxHeartbeats 4000000 in
set_option maxRecDepth 100000 in
theorem c_X8_thrown (l : Launch) (G : va_G) (T : Nat → ClassId) (A : Nat → Prop) (q : Nat → Nat) (Z : Nat → Nat → Int32) (g : Int64) : RO l yX8_thrown wsX8_thrown 0 G T A (oX8 T q Z g) [.ref (q 0)] (Z 0 0) := by
  refine Met.ofW (cc := cX8_thrown) (maxL := 1) (ret := (some .int)) (by decide) rfl ?_
  intro p e s m args below meth c s₁ B hml hv
  obtain ⟨ha, hP, hK, hE⟩ := hv
  have hx := B.exec
  have hb := B.bytes
  have hr := B.returns
  have hlocks := B.notSynchronized
  have hts := atoms_spec (ws := wsX8_thrown) B.pre
  have hown : s.vm.findClass RX8 = some m.cls := findClass_of_methodNamed B.named
  have cx : CallFix p m c cX8_thrown 1 s args wsX8_thrown RX8 := ⟨hx, hb, hml, hown, hts⟩
  refine w_entry ha (Nat.le_of_ble_eq_true rfl) (fun ls hl => ?_)
  refine w_q (fun Q0 hQ => ?_)
  have lk28 := hts (.fieldLink RX8 28 "WhistleTunesModel" "thrown" "I") (by decide +kernel)
  have hinX8 : ∀ w ∈ wsX80, w ∈ wsX8_thrown := by decide +kernel
  have hl : lv_has ls 1 [(0, .ref (q 0))] := hl
  have hP : va_P G vwCl [(q 0, .inr (8, [.int (Z 0 0), .ref (q 2), .ref (q 3), .int (Z 0 3), .ref (q 5), .int (Z 0 5), .ref (q 7), .int (Z 0 7), .int (Z 0 8), .int (Z 0 9), .int (Z 0 10), .int (Z 0 11), .ref (q 13), .int (Z 0 13), .ref (q 15), .long g])), (q 2, .inl (T 0, 267, .inl (Z 2))), (q 3, .inl (T 0, 1602, .inl (Z 3))), (q 5, .inl (T 0, 267, .inl (Z 5))), (q 7, .inl (T 0, 60, .inl (Z 7))), (q 13, .inl (T 0, 8, .inl (Z 13))), (q 15, .inl (T 0, 3, .inl (Z 15)))] s.heap := hP
  refine lv_aload_n hx hb dX8_thrown_0 rfl (lv_at hl 0 rfl) ?_
  refine va_get (D := G) (ci := 8) (v := .int (Z 0 0)) (C := RX8) (T := TX8) (N := 16) hx hb hts hinX8 hown hK hP 0 rfl rfl 0 (by decide) lk28 (fun _ h9 => h9) rfl dX8_thrown_1 ?_
  subst hQ
  exact e_ro hx hb hr hlocks rfl dX8_thrown_4
set_option maxHeartbeats 4000000 in
set_option maxRecDepth 100000 in
theorem c_X8_ofRoom (l : Launch) (G : va_G) (T : Nat → ClassId) (A : Nat → Prop) (q : Nat → Nat) (Z : Nat → Nat → Int32) (g : Int64) (r : Nat) (w : Nat) (hr6 : r < 6) (hw5 : w < 5) : RO l yX8_ofRoom wsX8_ofRoom 0 G T A (oX8 T q Z g) [.ref (q 0), .int (nI r), .int (nI w)] (Z 2 (14 + 5 * r + w)) := by
  refine Met.ofW (cc := cX8_ofRoom) (maxL := 3) (ret := (some .int)) (by decide) rfl ?_
  intro p e s m args below meth c s₁ B hml hv
  obtain ⟨ha, hP, hK, hE⟩ := hv
  have hx := B.exec
  have hb := B.bytes
  have hr := B.returns
  have hlocks := B.notSynchronized
  have hts := atoms_spec (ws := wsX8_ofRoom) B.pre
  have hown : s.vm.findClass RX8 = some m.cls := findClass_of_methodNamed B.named
  have cx : CallFix p m c cX8_ofRoom 3 s args wsX8_ofRoom RX8 := ⟨hx, hb, hml, hown, hts⟩
  refine w_entry ha (Nat.le_of_ble_eq_true rfl) (fun ls hl => ?_)
  refine w_q (fun Q0 hQ => ?_)
  have lk7 := hts (.fieldLink RX8 7 "WhistleTunesModel" "state" "[I") (by decide +kernel)
  have hinX8 : ∀ w ∈ wsX80, w ∈ wsX8_ofRoom := by decide +kernel
  have hl : lv_has ls 3 [(0, .ref (q 0)), (1, .int (nI r)), (2, .int (nI w))] := hl
  have hP : va_P G vwCl [(q 0, .inr (8, [.int (Z 0 0), .ref (q 2), .ref (q 3), .int (Z 0 3), .ref (q 5), .int (Z 0 5), .ref (q 7), .int (Z 0 7), .int (Z 0 8), .int (Z 0 9), .int (Z 0 10), .int (Z 0 11), .ref (q 13), .int (Z 0 13), .ref (q 15), .long g])), (q 2, .inl (T 0, 267, .inl (Z 2))), (q 3, .inl (T 0, 1602, .inl (Z 3))), (q 5, .inl (T 0, 267, .inl (Z 5))), (q 7, .inl (T 0, 60, .inl (Z 7))), (q 13, .inl (T 0, 8, .inl (Z 13))), (q 15, .inl (T 0, 3, .inl (Z 15)))] s.heap := hP
  refine lv_aload_n hx hb dX8_ofRoom_0 rfl (lv_at hl 0 rfl) ?_
  refine va_get (D := G) (ci := 8) (v := .ref (q 2)) (C := RX8) (T := TX8) (N := 16) hx hb hts hinX8 hown hK hP 0 rfl rfl 1 (by decide) lk7 (fun _ h9 => h9) rfl dX8_ofRoom_1 ?_
  refine lv_bipush (v := nI 14) hx hb dX8_ofRoom_4 (by decide) ?_
  refine n_iconst hx hb 5 dX8_ofRoom_6 (by decide) ?_
  refine lv_iload_n hx hb dX8_ofRoom_7 rfl (lv_at hl 1 rfl) ?_
  refine n_imul (a := 5) (b := r) hx hb dX8_ofRoom_8 ?_
  refine n_iadd (a := 14) (b := 5 * r) hx hb dX8_ofRoom_9 ?_
  refine lv_iload_n hx hb dX8_ofRoom_10 rfl (lv_at hl 2 rfl) ?_
  refine n_iadd (a := 14 + 5 * r) (b := w) hx hb dX8_ofRoom_11 ?_
  refine n_iald hx hb hK hP 1 0 rfl rfl (14 + 5 * r + w) (by omega) (by decide) dX8_ofRoom_12 ?_
  subst hQ
  exact e_ro hx hb hr hlocks rfl dX8_ofRoom_13
set_option maxHeartbeats 4000000 in
set_option maxRecDepth 100000 in
theorem c_X8_ofMessage (l : Launch) (G : va_G) (T : Nat → ClassId) (A : Nat → Prop) (q : Nat → Nat) (Z : Nat → Nat → Int32) (g : Int64) (mm : Nat) (w : Nat) (hm20 : mm < 20) (hw11 : w < 11) : RO l yX8_ofMessage wsX8_ofMessage 0 G T A (oX8 T q Z g) [.ref (q 0), .int (nI mm), .int (nI w)] (Z 2 (47 + 11 * mm + w)) := by
  refine Met.ofW (cc := cX8_ofMessage) (maxL := 3) (ret := (some .int)) (by decide) rfl ?_
  intro p e s m args below meth c s₁ B hml hv
  obtain ⟨ha, hP, hK, hE⟩ := hv
  have hx := B.exec
  have hb := B.bytes
  have hr := B.returns
  have hlocks := B.notSynchronized
  have hts := atoms_spec (ws := wsX8_ofMessage) B.pre
  have hown : s.vm.findClass RX8 = some m.cls := findClass_of_methodNamed B.named
  have cx : CallFix p m c cX8_ofMessage 3 s args wsX8_ofMessage RX8 := ⟨hx, hb, hml, hown, hts⟩
  refine w_entry ha (Nat.le_of_ble_eq_true rfl) (fun ls hl => ?_)
  refine w_q (fun Q0 hQ => ?_)
  have lk7 := hts (.fieldLink RX8 7 "WhistleTunesModel" "state" "[I") (by decide +kernel)
  have hinX8 : ∀ w ∈ wsX80, w ∈ wsX8_ofMessage := by decide +kernel
  have hl : lv_has ls 3 [(0, .ref (q 0)), (1, .int (nI mm)), (2, .int (nI w))] := hl
  have hP : va_P G vwCl [(q 0, .inr (8, [.int (Z 0 0), .ref (q 2), .ref (q 3), .int (Z 0 3), .ref (q 5), .int (Z 0 5), .ref (q 7), .int (Z 0 7), .int (Z 0 8), .int (Z 0 9), .int (Z 0 10), .int (Z 0 11), .ref (q 13), .int (Z 0 13), .ref (q 15), .long g])), (q 2, .inl (T 0, 267, .inl (Z 2))), (q 3, .inl (T 0, 1602, .inl (Z 3))), (q 5, .inl (T 0, 267, .inl (Z 5))), (q 7, .inl (T 0, 60, .inl (Z 7))), (q 13, .inl (T 0, 8, .inl (Z 13))), (q 15, .inl (T 0, 3, .inl (Z 15)))] s.heap := hP
  refine lv_aload_n hx hb dX8_ofMessage_0 rfl (lv_at hl 0 rfl) ?_
  refine va_get (D := G) (ci := 8) (v := .ref (q 2)) (C := RX8) (T := TX8) (N := 16) hx hb hts hinX8 hown hK hP 0 rfl rfl 1 (by decide) lk7 (fun _ h9 => h9) rfl dX8_ofMessage_1 ?_
  refine lv_bipush (v := nI 47) hx hb dX8_ofMessage_4 (by decide) ?_
  refine lv_bipush (v := nI 11) hx hb dX8_ofMessage_6 (by decide) ?_
  refine lv_iload_n hx hb dX8_ofMessage_8 rfl (lv_at hl 1 rfl) ?_
  refine n_imul (a := 11) (b := mm) hx hb dX8_ofMessage_9 ?_
  refine n_iadd (a := 47) (b := 11 * mm) hx hb dX8_ofMessage_10 ?_
  refine lv_iload_n hx hb dX8_ofMessage_11 rfl (lv_at hl 2 rfl) ?_
  refine n_iadd (a := 47 + 11 * mm) (b := w) hx hb dX8_ofMessage_12 ?_
  refine n_iald hx hb hK hP 1 0 rfl rfl (47 + 11 * mm + w) (by omega) (by decide) dX8_ofMessage_13 ?_
  subst hQ
  exact e_ro hx hb hr hlocks rfl dX8_ofMessage_14
set_option maxHeartbeats 4000000 in
set_option maxRecDepth 100000 in
theorem c_X8_ones (l : Launch) (G : va_G) (T : Nat → ClassId) (A : Nat → Prop) (x : Int32) : RO l yX8_ones wsX8_ones 0 G T A ([]) [.int x] (mOn x 6) := by
  refine Met.ofW (cc := cX8_ones) (maxL := 3) (ret := (some .int)) (by decide) rfl ?_
  intro p e s m args below meth c s₁ B hml hv
  obtain ⟨ha, hP, hK, hE⟩ := hv
  have hx := B.exec
  have hb := B.bytes
  have hr := B.returns
  have hlocks := B.notSynchronized
  have hts := atoms_spec (ws := wsX8_ones) B.pre
  have hown : s.vm.findClass RX8 = some m.cls := findClass_of_methodNamed B.named
  have cx : CallFix p m c cX8_ones 3 s args wsX8_ones RX8 := ⟨hx, hb, hml, hown, hts⟩
  refine w_entry ha (Nat.le_of_ble_eq_true rfl) (fun ls hl => ?_)
  refine w_q (fun Q0 hQ => ?_)
  have hl : lv_has ls 3 [(0, .int x)] := hl
  have hP : va_P G vwCl [] s.heap := hP
  refine n_iconst hx hb 0 dX8_ones_0 (by decide) ?_
  refine lv_istore_n (lv' := [(1, .int (nI 0)), (0, .int x)]) hx hb dX8_ones_1 rfl hl (by decide) rfl (fun ls hl => ?_)
  refine n_iconst hx hb 0 dX8_ones_2 (by decide) ?_
  refine lv_istore_n (lv' := [(2, .int (nI 0)), (1, .int (nI 0)), (0, .int x)]) hx hb dX8_ones_3 rfl hl (by decide) rfl (fun ls hl => ?_)
  have L4 : ∀ (n9 k : Nat) (hk1 : k ≤ 6) (hk2 : 6 - k < n9) (x2 : Int32) (x1 : Int32) (hx2 : x2 = nI k) (hx1 : x1 = mOn x k) (ls : Array Slot) (hl : lv_has ls 3 [(2, .int x2), (1, .int x1), (0, .int x)]), W p l e (headSpec wsX8_ones (rmD 0 0 0)).room s m args below meth c s.heap [] 0 0 Q0 (F0 m 4 ls []) := by
    intro n9
    induction n9 with
    | zero => intros; omega
    | succ n9 ih4 =>
      intro k hk1 hk2 x2 x1 hx2 hx1 ls hl
      subst hx2 hx1
      refine lv_iload_n hx hb dX8_ones_4 rfl (lv_at hl 0 rfl) ?_
      refine lv_bipush (v := nI 6) hx hb dX8_ones_5 (by decide) ?_
      refine n_icmp_ge (a := k) (b := 6) (tgt := 24) hx hb (by omega) (by decide) dX8_ones_7 (by decide) (fun c_1 => ?_) (fun c_2 => ?_)
      · skip
        refine lv_iload_n hx hb dX8_ones_24 rfl (lv_at hl 1 rfl) ?_
        subst hQ
        exact e_ro hx hb hr hlocks (by obtain rfl : k = 6 := (by omega); rfl) dX8_ones_25
      · skip
        refine lv_iload_n hx hb dX8_ones_10 rfl (lv_at hl 1 rfl) ?_
        refine lv_iload_n hx hb dX8_ones_11 rfl (lv_at hl 2 rfl) ?_
        refine lv_iload_n hx hb dX8_ones_12 rfl (lv_at hl 0 rfl) ?_
        refine x_ishr hx hb dX8_ones_13 ?_
        refine n_iconst hx hb 1 dX8_ones_14 (by decide) ?_
        refine lv_iand hx hb dX8_ones_15 ?_
        refine lv_iadd hx hb dX8_ones_16 ?_
        refine lv_istore_n (lv' := [(1, .int ((mOn x k) + ((iShr x (nI k)) &&& (nI 1)))), (2, .int (nI k)), (0, .int x)]) hx hb dX8_ones_17 rfl hl (by decide) rfl (fun ls hl => ?_)
        refine lv_iinc (v := nI (k + 1)) (lv' := [(2, .int (nI (k + 1))), (1, .int ((mOn x k) + ((iShr x (nI k)) &&& (nI 1)))), (0, .int x)]) hx hb dX8_ones_18 hl (k := 1) rfl (n_inc k 1 rfl) (by decide) rfl (fun ls hl => ?_)
        refine lv_goto (tgt := 4) hx hb dX8_ones_21 (by decide) ?_
        have e_3 : ((mOn x k) + ((iShr x (nI k)) &&& (nI 1))) = mOn x (k + 1) := rfl
        exact ih4 (k + 1) (by omega) (by omega) _ _ rfl e_3 _ (lv_sub hl [0, 1, 2] rfl)
  exact L4 (6 + 1) 0 (by omega) (by omega) _ _ rfl rfl _ (lv_sub hl [0, 1, 2] rfl)
set_option maxHeartbeats 4000000 in
set_option maxRecDepth 100000 in
theorem c_X8_next (l : Launch) (G : va_G) (T : Nat → ClassId) (A : Nat → Prop) (q : Nat → Nat) (Z : Nat → Nat → Int32) (g : Int64) (a : Nat) (L : Nat) (hat : Z 0 8 = nI a) (hle : Z 0 7 = nI L) (ha60 : a ≤ 60) (hL60 : L ≤ 60) : RO l yX8_next wsX8_next 0 G T A (oX8 T q Z g) [.ref (q 0)] (mNx Z a L) := by
  refine Met.ofW (cc := cX8_next) (maxL := 1) (ret := (some .int)) (by decide) rfl ?_
  intro p e s m args below meth c s₁ B hml hv
  obtain ⟨ha, hP, hK, hE⟩ := hv
  have hx := B.exec
  have hb := B.bytes
  have hr := B.returns
  have hlocks := B.notSynchronized
  have hts := atoms_spec (ws := wsX8_next) B.pre
  have hown : s.vm.findClass RX8 = some m.cls := findClass_of_methodNamed B.named
  have cx : CallFix p m c cX8_next 1 s args wsX8_next RX8 := ⟨hx, hb, hml, hown, hts⟩
  refine w_entry ha (Nat.le_of_ble_eq_true rfl) (fun ls hl => ?_)
  refine w_q (fun Q0 hQ => ?_)
  have lk50 := hts (.fieldLink RX8 50 "WhistleTunesModel" "at" "I") (by decide +kernel)
  have hinX8 : ∀ w ∈ wsX80, w ∈ wsX8_next := by decide +kernel
  have lk53 := hts (.fieldLink RX8 53 "WhistleTunesModel" "length" "I") (by decide +kernel)
  have lk19 := hts (.fieldLink RX8 19 "WhistleTunesModel" "buffer" "[I") (by decide +kernel)
  have hl : lv_has ls 1 [(0, .ref (q 0))] := hl
  have hP : va_P G vwCl [(q 0, .inr (8, [.int (Z 0 0), .ref (q 2), .ref (q 3), .int (Z 0 3), .ref (q 5), .int (Z 0 5), .ref (q 7), .int (Z 0 7), .int (Z 0 8), .int (Z 0 9), .int (Z 0 10), .int (Z 0 11), .ref (q 13), .int (Z 0 13), .ref (q 15), .long g])), (q 2, .inl (T 0, 267, .inl (Z 2))), (q 3, .inl (T 0, 1602, .inl (Z 3))), (q 5, .inl (T 0, 267, .inl (Z 5))), (q 7, .inl (T 0, 60, .inl (Z 7))), (q 13, .inl (T 0, 8, .inl (Z 13))), (q 15, .inl (T 0, 3, .inl (Z 15)))] s.heap := hP
  refine lv_aload_n hx hb dX8_next_0 rfl (lv_at hl 0 rfl) ?_
  refine va_get (D := G) (ci := 8) (v := .int (Z 0 8)) (C := RX8) (T := TX8) (N := 16) hx hb hts hinX8 hown hK hP 0 rfl rfl 8 (by decide) lk50 (fun _ h9 => h9) rfl dX8_next_1 ?_
  refine n_top (y := nI a) hat ?_
  refine lv_aload_n hx hb dX8_next_4 rfl (lv_at hl 0 rfl) ?_
  refine va_get (D := G) (ci := 8) (v := .int (Z 0 7)) (C := RX8) (T := TX8) (N := 16) hx hb hts hinX8 hown hK hP 0 rfl rfl 7 (by decide) lk53 (fun _ h9 => h9) rfl dX8_next_5 ?_
  refine n_top (y := nI L) hle ?_
  refine n_icmp_ge (a := a) (b := L) (tgt := 23) hx hb (by omega) (by omega) dX8_next_8 (by decide) (fun c_1 => ?_) (fun c_2 => ?_)
  · skip
    refine n_iconst hx hb 0 dX8_next_23 (by decide) ?_
    subst hQ
    exact e_ro hx hb hr hlocks (by unfold mNx; first | rw [if_pos c_1] | rw [if_neg (Nat.not_lt.mpr c_1)]) dX8_next_24
  · skip
    refine lv_aload_n hx hb dX8_next_11 rfl (lv_at hl 0 rfl) ?_
    refine va_get (D := G) (ci := 8) (v := .ref (q 7)) (C := RX8) (T := TX8) (N := 16) hx hb hts hinX8 hown hK hP 0 rfl rfl 6 (by decide) lk19 (fun _ h9 => h9) rfl dX8_next_12 ?_
    refine lv_aload_n hx hb dX8_next_15 rfl (lv_at hl 0 rfl) ?_
    refine va_get (D := G) (ci := 8) (v := .int (Z 0 8)) (C := RX8) (T := TX8) (N := 16) hx hb hts hinX8 hown hK hP 0 rfl rfl 8 (by decide) lk50 (fun _ h9 => h9) rfl dX8_next_16 ?_
    refine n_top (y := nI a) hat ?_
    refine n_iald hx hb hK hP 4 0 rfl rfl a (by omega) (by decide) dX8_next_19 ?_
    refine lv_goto (tgt := 24) hx hb dX8_next_20 (by decide) ?_
    subst hQ
    exact e_ro hx hb hr hlocks (by unfold mNx; first | rw [if_pos c_2] | rw [if_neg (Nat.not_lt.mpr c_2)]) dX8_next_24
set_option maxHeartbeats 4000000 in
set_option maxRecDepth 100000 in
theorem c_X8_noteOf (l : Launch) (G : va_G) (T : Nat → ClassId) (A : Nat → Prop) (cc : Int32) : RO l yX8_noteOf wsX8_noteOf 0 G T A ([]) [.int cc] (mNo cc) := by
  refine Met.ofW (cc := cX8_noteOf) (maxL := 1) (ret := (some .int)) (by decide) rfl ?_
  intro p e s m args below meth c s₁ B hml hv
  obtain ⟨ha, hP, hK, hE⟩ := hv
  have hx := B.exec
  have hb := B.bytes
  have hr := B.returns
  have hlocks := B.notSynchronized
  have hts := atoms_spec (ws := wsX8_noteOf) B.pre
  have hown : s.vm.findClass RX8 = some m.cls := findClass_of_methodNamed B.named
  have cx : CallFix p m c cX8_noteOf 1 s args wsX8_noteOf RX8 := ⟨hx, hb, hml, hown, hts⟩
  refine w_entry ha (Nat.le_of_ble_eq_true rfl) (fun ls hl => ?_)
  refine w_q (fun Q0 hQ => ?_)
  have hl : lv_has ls 1 [(0, .int cc)] := hl
  have hP : va_P G vwCl [] s.heap := hP
  refine lv_iload_n hx hb dX8_noteOf_0 rfl (lv_at hl 0 rfl) ?_
  rcases sw_tab cc 97 8 (by decide) with sw_1 | ⟨j_2, hj_3, hx_4⟩
  · skip
    refine n_tabO (tgt := 63) hx hb dX8_noteOf_1 97 8 sw_1 rfl rfl (by decide) ?_
    refine lv_iconst (v := -1) hx hb dX8_noteOf_63 (by decide) ?_
    subst hQ
    exact e_ro hx hb hr hlocks (by first | (rw [sw_1]; decide) | (unfold mNo; rw [if_neg (sw_out sw_1 (a := 99) (by decide) (by decide) (by decide)), if_neg (sw_out sw_1 (a := 100) (by decide) (by decide) (by decide)), if_neg (sw_out sw_1 (a := 101) (by decide) (by decide) (by decide)), if_neg (sw_out sw_1 (a := 102) (by decide) (by decide) (by decide)), if_neg (sw_out sw_1 (a := 103) (by decide) (by decide) (by decide)), if_neg (sw_out sw_1 (a := 97) (by decide) (by decide) (by decide)), if_neg (sw_out sw_1 (a := 104) (by decide) (by decide) (by decide))])) dX8_noteOf_64
  · rcases (show j_2 = 0 ∨ j_2 = 1 ∨ j_2 = 2 ∨ j_2 = 3 ∨ j_2 = 4 ∨ j_2 = 5 ∨ j_2 = 6 ∨ j_2 = 7 by omega) with rfl | rfl | rfl | rfl | rfl | rfl | rfl | rfl
    · skip
      have hx_4 : cc = nI 97 := hx_4
      refine n_top (y := nI 97) hx_4 ?_
      refine n_tab (a := 97) (off := 57) (tgt := 58) hx hb (by decide) dX8_noteOf_1 (by decide) (by decide) rfl (by decide) ?_
      refine n_iconst hx hb 5 dX8_noteOf_58 (by decide) ?_
      subst hQ
      exact e_ro hx hb hr hlocks (by first | (rw [hx_4]; decide) | (unfold mNo; rw [if_neg (sw_out hx_4 (a := 99) (by decide) (by decide) (by decide)), if_neg (sw_out hx_4 (a := 100) (by decide) (by decide) (by decide)), if_neg (sw_out hx_4 (a := 101) (by decide) (by decide) (by decide)), if_neg (sw_out hx_4 (a := 102) (by decide) (by decide) (by decide)), if_neg (sw_out hx_4 (a := 103) (by decide) (by decide) (by decide)), if_neg (sw_out hx_4 (a := 97) (by decide) (by decide) (by decide)), if_neg (sw_out hx_4 (a := 104) (by decide) (by decide) (by decide))])) dX8_noteOf_59
    · skip
      have hx_4 : cc = nI 98 := hx_4
      refine n_top (y := nI 98) hx_4 ?_
      refine n_tab (a := 98) (off := 62) (tgt := 63) hx hb (by decide) dX8_noteOf_1 (by decide) (by decide) rfl (by decide) ?_
      refine lv_iconst (v := -1) hx hb dX8_noteOf_63 (by decide) ?_
      subst hQ
      exact e_ro hx hb hr hlocks (by first | (rw [hx_4]; decide) | (unfold mNo; rw [if_neg (sw_out hx_4 (a := 99) (by decide) (by decide) (by decide)), if_neg (sw_out hx_4 (a := 100) (by decide) (by decide) (by decide)), if_neg (sw_out hx_4 (a := 101) (by decide) (by decide) (by decide)), if_neg (sw_out hx_4 (a := 102) (by decide) (by decide) (by decide)), if_neg (sw_out hx_4 (a := 103) (by decide) (by decide) (by decide)), if_neg (sw_out hx_4 (a := 97) (by decide) (by decide) (by decide)), if_neg (sw_out hx_4 (a := 104) (by decide) (by decide) (by decide))])) dX8_noteOf_64
    · skip
      have hx_4 : cc = nI 99 := hx_4
      refine n_top (y := nI 99) hx_4 ?_
      refine n_tab (a := 99) (off := 47) (tgt := 48) hx hb (by decide) dX8_noteOf_1 (by decide) (by decide) rfl (by decide) ?_
      refine n_iconst hx hb 0 dX8_noteOf_48 (by decide) ?_
      subst hQ
      exact e_ro hx hb hr hlocks (by first | (rw [hx_4]; decide) | (unfold mNo; rw [if_neg (sw_out hx_4 (a := 99) (by decide) (by decide) (by decide)), if_neg (sw_out hx_4 (a := 100) (by decide) (by decide) (by decide)), if_neg (sw_out hx_4 (a := 101) (by decide) (by decide) (by decide)), if_neg (sw_out hx_4 (a := 102) (by decide) (by decide) (by decide)), if_neg (sw_out hx_4 (a := 103) (by decide) (by decide) (by decide)), if_neg (sw_out hx_4 (a := 97) (by decide) (by decide) (by decide)), if_neg (sw_out hx_4 (a := 104) (by decide) (by decide) (by decide))])) dX8_noteOf_49
    · skip
      have hx_4 : cc = nI 100 := hx_4
      refine n_top (y := nI 100) hx_4 ?_
      refine n_tab (a := 100) (off := 49) (tgt := 50) hx hb (by decide) dX8_noteOf_1 (by decide) (by decide) rfl (by decide) ?_
      refine n_iconst hx hb 1 dX8_noteOf_50 (by decide) ?_
      subst hQ
      exact e_ro hx hb hr hlocks (by first | (rw [hx_4]; decide) | (unfold mNo; rw [if_neg (sw_out hx_4 (a := 99) (by decide) (by decide) (by decide)), if_neg (sw_out hx_4 (a := 100) (by decide) (by decide) (by decide)), if_neg (sw_out hx_4 (a := 101) (by decide) (by decide) (by decide)), if_neg (sw_out hx_4 (a := 102) (by decide) (by decide) (by decide)), if_neg (sw_out hx_4 (a := 103) (by decide) (by decide) (by decide)), if_neg (sw_out hx_4 (a := 97) (by decide) (by decide) (by decide)), if_neg (sw_out hx_4 (a := 104) (by decide) (by decide) (by decide))])) dX8_noteOf_51
    · skip
      have hx_4 : cc = nI 101 := hx_4
      refine n_top (y := nI 101) hx_4 ?_
      refine n_tab (a := 101) (off := 51) (tgt := 52) hx hb (by decide) dX8_noteOf_1 (by decide) (by decide) rfl (by decide) ?_
      refine n_iconst hx hb 2 dX8_noteOf_52 (by decide) ?_
      subst hQ
      exact e_ro hx hb hr hlocks (by first | (rw [hx_4]; decide) | (unfold mNo; rw [if_neg (sw_out hx_4 (a := 99) (by decide) (by decide) (by decide)), if_neg (sw_out hx_4 (a := 100) (by decide) (by decide) (by decide)), if_neg (sw_out hx_4 (a := 101) (by decide) (by decide) (by decide)), if_neg (sw_out hx_4 (a := 102) (by decide) (by decide) (by decide)), if_neg (sw_out hx_4 (a := 103) (by decide) (by decide) (by decide)), if_neg (sw_out hx_4 (a := 97) (by decide) (by decide) (by decide)), if_neg (sw_out hx_4 (a := 104) (by decide) (by decide) (by decide))])) dX8_noteOf_53
    · skip
      have hx_4 : cc = nI 102 := hx_4
      refine n_top (y := nI 102) hx_4 ?_
      refine n_tab (a := 102) (off := 53) (tgt := 54) hx hb (by decide) dX8_noteOf_1 (by decide) (by decide) rfl (by decide) ?_
      refine n_iconst hx hb 3 dX8_noteOf_54 (by decide) ?_
      subst hQ
      exact e_ro hx hb hr hlocks (by first | (rw [hx_4]; decide) | (unfold mNo; rw [if_neg (sw_out hx_4 (a := 99) (by decide) (by decide) (by decide)), if_neg (sw_out hx_4 (a := 100) (by decide) (by decide) (by decide)), if_neg (sw_out hx_4 (a := 101) (by decide) (by decide) (by decide)), if_neg (sw_out hx_4 (a := 102) (by decide) (by decide) (by decide)), if_neg (sw_out hx_4 (a := 103) (by decide) (by decide) (by decide)), if_neg (sw_out hx_4 (a := 97) (by decide) (by decide) (by decide)), if_neg (sw_out hx_4 (a := 104) (by decide) (by decide) (by decide))])) dX8_noteOf_55
    · skip
      have hx_4 : cc = nI 103 := hx_4
      refine n_top (y := nI 103) hx_4 ?_
      refine n_tab (a := 103) (off := 55) (tgt := 56) hx hb (by decide) dX8_noteOf_1 (by decide) (by decide) rfl (by decide) ?_
      refine n_iconst hx hb 4 dX8_noteOf_56 (by decide) ?_
      subst hQ
      exact e_ro hx hb hr hlocks (by first | (rw [hx_4]; decide) | (unfold mNo; rw [if_neg (sw_out hx_4 (a := 99) (by decide) (by decide) (by decide)), if_neg (sw_out hx_4 (a := 100) (by decide) (by decide) (by decide)), if_neg (sw_out hx_4 (a := 101) (by decide) (by decide) (by decide)), if_neg (sw_out hx_4 (a := 102) (by decide) (by decide) (by decide)), if_neg (sw_out hx_4 (a := 103) (by decide) (by decide) (by decide)), if_neg (sw_out hx_4 (a := 97) (by decide) (by decide) (by decide)), if_neg (sw_out hx_4 (a := 104) (by decide) (by decide) (by decide))])) dX8_noteOf_57
    · skip
      have hx_4 : cc = nI 104 := hx_4
      refine n_top (y := nI 104) hx_4 ?_
      refine n_tab (a := 104) (off := 59) (tgt := 60) hx hb (by decide) dX8_noteOf_1 (by decide) (by decide) rfl (by decide) ?_
      refine lv_bipush (v := nI 6) hx hb dX8_noteOf_60 (by decide) ?_
      subst hQ
      exact e_ro hx hb hr hlocks (by first | (rw [hx_4]; decide) | (unfold mNo; rw [if_neg (sw_out hx_4 (a := 99) (by decide) (by decide) (by decide)), if_neg (sw_out hx_4 (a := 100) (by decide) (by decide) (by decide)), if_neg (sw_out hx_4 (a := 101) (by decide) (by decide) (by decide)), if_neg (sw_out hx_4 (a := 102) (by decide) (by decide) (by decide)), if_neg (sw_out hx_4 (a := 103) (by decide) (by decide) (by decide)), if_neg (sw_out hx_4 (a := 97) (by decide) (by decide) (by decide)), if_neg (sw_out hx_4 (a := 104) (by decide) (by decide) (by decide))])) dX8_noteOf_62
set_option maxHeartbeats 4000000 in
set_option maxRecDepth 100000 in
theorem c_X8_shapeOfTune (l : Launch) (G : va_G) (T : Nat → ClassId) (A : Nat → Prop) (q : Nat → Nat) (Z : Nat → Nat → Int32) (g : Int64) (k : Nat) (hk8 : k < 8) : RO l yX8_shapeOfTune wsX8_shapeOfTune 0 G T A (oX8 T q Z g) [.ref (q 0), .int (nI k)] (mShT Z k) := by
  refine Met.ofW (cc := cX8_shapeOfTune) (maxL := 2) (ret := (some .int)) (by decide) rfl ?_
  intro p e s m args below meth c s₁ B hml hv
  obtain ⟨ha, hP, hK, hE⟩ := hv
  have hx := B.exec
  have hb := B.bytes
  have hr := B.returns
  have hlocks := B.notSynchronized
  have hts := atoms_spec (ws := wsX8_shapeOfTune) B.pre
  have hown : s.vm.findClass RX8 = some m.cls := findClass_of_methodNamed B.named
  have cx : CallFix p m c cX8_shapeOfTune 2 s args wsX8_shapeOfTune RX8 := ⟨hx, hb, hml, hown, hts⟩
  refine w_entry ha (Nat.le_of_ble_eq_true rfl) (fun ls hl => ?_)
  refine w_q (fun Q0 hQ => ?_)
  have lk22 := hts (.fieldLink RX8 22 "WhistleTunesModel" "tune" "[I") (by decide +kernel)
  have hinX8 : ∀ w ∈ wsX80, w ∈ wsX8_shapeOfTune := by decide +kernel
  have hl : lv_has ls 2 [(0, .ref (q 0)), (1, .int (nI k))] := hl
  have hP : va_P G vwCl [(q 0, .inr (8, [.int (Z 0 0), .ref (q 2), .ref (q 3), .int (Z 0 3), .ref (q 5), .int (Z 0 5), .ref (q 7), .int (Z 0 7), .int (Z 0 8), .int (Z 0 9), .int (Z 0 10), .int (Z 0 11), .ref (q 13), .int (Z 0 13), .ref (q 15), .long g])), (q 2, .inl (T 0, 267, .inl (Z 2))), (q 3, .inl (T 0, 1602, .inl (Z 3))), (q 5, .inl (T 0, 267, .inl (Z 5))), (q 7, .inl (T 0, 60, .inl (Z 7))), (q 13, .inl (T 0, 8, .inl (Z 13))), (q 15, .inl (T 0, 3, .inl (Z 15)))] s.heap := hP
  refine lv_aload_n hx hb dX8_shapeOfTune_0 rfl (lv_at hl 0 rfl) ?_
  refine va_get (D := G) (ci := 8) (v := .ref (q 13)) (C := RX8) (T := TX8) (N := 16) hx hb hts hinX8 hown hK hP 0 rfl rfl 12 (by decide) lk22 (fun _ h9 => h9) rfl dX8_shapeOfTune_1 ?_
  refine lv_iload_n hx hb dX8_shapeOfTune_4 rfl (lv_at hl 1 rfl) ?_
  refine n_iald hx hb hK hP 5 0 rfl rfl k (by omega) (by decide) dX8_shapeOfTune_5 ?_
  refine lv_aload_n hx hb dX8_shapeOfTune_6 rfl (lv_at hl 0 rfl) ?_
  refine va_get (D := G) (ci := 8) (v := .ref (q 13)) (C := RX8) (T := TX8) (N := 16) hx hb hts hinX8 hown hK hP 0 rfl rfl 12 (by decide) lk22 (fun _ h9 => h9) rfl dX8_shapeOfTune_7 ?_
  refine n_iconst hx hb 0 dX8_shapeOfTune_10 (by decide) ?_
  refine n_iald hx hb hK hP 5 0 rfl rfl 0 (by decide) (by decide) dX8_shapeOfTune_11 ?_
  refine lv_isub hx hb dX8_shapeOfTune_12 ?_
  refine lv_bipush (v := nI 7) hx hb dX8_shapeOfTune_13 (by decide) ?_
  refine lv_iadd hx hb dX8_shapeOfTune_15 ?_
  refine lv_bipush (v := nI 7) hx hb dX8_shapeOfTune_16 (by decide) ?_
  refine x_irem hx hb (nI_ne0 (by decide) (by decide)) dX8_shapeOfTune_18 ?_
  subst hQ
  exact e_ro hx hb hr hlocks rfl dX8_shapeOfTune_19
set_option maxHeartbeats 4000000 in
set_option maxRecDepth 100000 in
theorem c_X8_shapeOf (l : Launch) (G : va_G) (T : Nat → ClassId) (A : Nat → Prop) (q : Nat → Nat) (Z : Nat → Nat → Int32) (g : Int64) (mm : Nat) (k : Nat) (hm20 : mm < 20) (hk8 : k < 8) : RO l yX8_shapeOf wsX8_shapeOf 1 G T A (oX8 T q Z g) [.ref (q 0), .int (nI mm), .int (nI k)] (mSh Z mm k) := by
  refine Met.ofW (cc := cX8_shapeOf) (maxL := 3) (ret := (some .int)) (by decide) rfl ?_
  intro p e s m args below meth c s₁ B hml hv
  obtain ⟨ha, hP, hK, hE⟩ := hv
  have hx := B.exec
  have hb := B.bytes
  have hr := B.returns
  have hlocks := B.notSynchronized
  have hts := atoms_spec (ws := wsX8_shapeOf) B.pre
  have hown : s.vm.findClass RX8 = some m.cls := findClass_of_methodNamed B.named
  have cx : CallFix p m c cX8_shapeOf 3 s args wsX8_shapeOf RX8 := ⟨hx, hb, hml, hown, hts⟩
  refine w_entry ha (Nat.le_of_ble_eq_true rfl) (fun ls hl => ?_)
  refine w_q (fun Q0 hQ => ?_)
  have hl : lv_has ls 3 [(0, .ref (q 0)), (1, .int (nI mm)), (2, .int (nI k))] := hl
  have hP : va_P G vwCl [(q 0, .inr (8, [.int (Z 0 0), .ref (q 2), .ref (q 3), .int (Z 0 3), .ref (q 5), .int (Z 0 5), .ref (q 7), .int (Z 0 7), .int (Z 0 8), .int (Z 0 9), .int (Z 0 10), .int (Z 0 11), .ref (q 13), .int (Z 0 13), .ref (q 15), .long g])), (q 2, .inl (T 0, 267, .inl (Z 2))), (q 3, .inl (T 0, 1602, .inl (Z 3))), (q 5, .inl (T 0, 267, .inl (Z 5))), (q 7, .inl (T 0, 60, .inl (Z 7))), (q 13, .inl (T 0, 8, .inl (Z 13))), (q 15, .inl (T 0, 3, .inl (Z 15)))] s.heap := hP
  refine lv_aload_n hx hb dX8_shapeOf_0 rfl (lv_at hl 0 rfl) ?_
  refine lv_iload_n hx hb dX8_shapeOf_1 rfl (lv_at hl 1 rfl) ?_
  refine n_iconst hx hb 3 dX8_shapeOf_2 (by decide) ?_
  refine lv_iload_n hx hb dX8_shapeOf_3 rfl (lv_at hl 2 rfl) ?_
  refine n_iadd (a := 3) (b := k) hx hb dX8_shapeOf_4 ?_
  refine k_roV (As := [.int (nI mm), .int (nI (3 + k))]) (rest := []) (wc := oX8 T q Z g) (d := 0) (v := (Z 2) (47 + 11 * mm + (3 + k))) cx (c_X8_ofMessage l G T A q Z g mm (3 + k) (by omega) (by omega)) (cwV 2 hts gX8_shapeOf_X8_ofMessage rfl rfl rfl (by decide +kernel) ⟨Nat.le_of_ble_eq_true rfl, Nat.le_of_ble_eq_true rfl⟩) hP hK hE (va_recv hK hP (ci := 8) (q0 := 0) rfl rfl) rfl hl.1 rfl (Nat.le_of_ble_eq_true rfl) dX8_shapeOf_5 ⟨Nat.le_of_ble_eq_true rfl, Nat.le_of_ble_eq_true rfl⟩ ?_
  refine lv_aload_n hx hb dX8_shapeOf_8 rfl (lv_at hl 0 rfl) ?_
  refine lv_iload_n hx hb dX8_shapeOf_9 rfl (lv_at hl 1 rfl) ?_
  refine n_iconst hx hb 3 dX8_shapeOf_10 (by decide) ?_
  refine k_roV (As := [.int (nI mm), .int (nI 3)]) (rest := [.int ((Z 2) (47 + 11 * mm + (3 + k)))]) (wc := oX8 T q Z g) (d := 0) (v := (Z 2) (47 + 11 * mm + 3)) cx (c_X8_ofMessage l G T A q Z g mm 3 (by omega) (by omega)) (cwV 2 hts gX8_shapeOf_X8_ofMessage rfl rfl rfl (by decide +kernel) ⟨Nat.le_of_ble_eq_true rfl, Nat.le_of_ble_eq_true rfl⟩) hP hK hE (va_recv hK hP (ci := 8) (q0 := 0) rfl rfl) rfl hl.1 rfl (Nat.le_of_ble_eq_true rfl) dX8_shapeOf_11 ⟨Nat.le_of_ble_eq_true rfl, Nat.le_of_ble_eq_true rfl⟩ ?_
  refine lv_isub hx hb dX8_shapeOf_14 ?_
  refine lv_bipush (v := nI 7) hx hb dX8_shapeOf_15 (by decide) ?_
  refine lv_iadd hx hb dX8_shapeOf_17 ?_
  refine lv_bipush (v := nI 7) hx hb dX8_shapeOf_18 (by decide) ?_
  refine x_irem hx hb (nI_ne0 (by decide) (by decide)) dX8_shapeOf_20 ?_
  subst hQ
  exact e_ro hx hb hr hlocks rfl dX8_shapeOf_21
set_option maxHeartbeats 4000000 in
set_option maxRecDepth 100000 in
theorem c_X8_hasShape (l : Launch) (G : va_G) (T : Nat → ClassId) (A : Nat → Prop) (q : Nat → Nat) (Z : Nat → Nat → Int32) (g : Int64) (mm : Nat) (n : Nat) (hm20 : mm < 20) (hmany : Z 0 13 = nI n) (hn8 : n ≤ 8) : RO l yX8_hasShape wsX8_hasShape 2 G T A (oX8 T q Z g) [.ref (q 0), .int (nI mm)] (bI (mHS Z mm n)) := by
  refine Met.ofW (cc := cX8_hasShape) (maxL := 4) (ret := (some .boolean)) (by decide) rfl ?_
  intro p e s m args below meth c s₁ B hml hv
  obtain ⟨ha, hP, hK, hE⟩ := hv
  have hx := B.exec
  have hb := B.bytes
  have hr := B.returns
  have hlocks := B.notSynchronized
  have hts := atoms_spec (ws := wsX8_hasShape) B.pre
  have hown : s.vm.findClass RX8 = some m.cls := findClass_of_methodNamed B.named
  have cx : CallFix p m c cX8_hasShape 4 s args wsX8_hasShape RX8 := ⟨hx, hb, hml, hown, hts⟩
  refine w_entry ha (Nat.le_of_ble_eq_true rfl) (fun ls hl => ?_)
  refine w_q (fun Q0 hQ => ?_)
  have lk60 := hts (.fieldLink RX8 60 "WhistleTunesModel" "many" "I") (by decide +kernel)
  have hinX8 : ∀ w ∈ wsX80, w ∈ wsX8_hasShape := by decide +kernel
  have hl : lv_has ls 4 [(0, .ref (q 0)), (1, .int (nI mm))] := hl
  have hP : va_P G vwCl [(q 0, .inr (8, [.int (Z 0 0), .ref (q 2), .ref (q 3), .int (Z 0 3), .ref (q 5), .int (Z 0 5), .ref (q 7), .int (Z 0 7), .int (Z 0 8), .int (Z 0 9), .int (Z 0 10), .int (Z 0 11), .ref (q 13), .int (Z 0 13), .ref (q 15), .long g])), (q 2, .inl (T 0, 267, .inl (Z 2))), (q 3, .inl (T 0, 1602, .inl (Z 3))), (q 5, .inl (T 0, 267, .inl (Z 5))), (q 7, .inl (T 0, 60, .inl (Z 7))), (q 13, .inl (T 0, 8, .inl (Z 13))), (q 15, .inl (T 0, 3, .inl (Z 15)))] s.heap := hP
  refine lv_aload_n hx hb dX8_hasShape_0 rfl (lv_at hl 0 rfl) ?_
  refine lv_iload_n hx hb dX8_hasShape_1 rfl (lv_at hl 1 rfl) ?_
  refine n_iconst hx hb 0 dX8_hasShape_2 (by decide) ?_
  refine k_roV (As := [.int (nI mm), .int (nI 0)]) (rest := []) (wc := oX8 T q Z g) (d := 0) (v := (Z 2) (47 + 11 * mm)) cx (c_X8_ofMessage l G T A q Z g mm 0 (by omega) (by omega)) (cwV 2 hts gX8_hasShape_X8_ofMessage rfl rfl rfl (by decide +kernel) ⟨Nat.le_of_ble_eq_true rfl, Nat.le_of_ble_eq_true rfl⟩) hP hK hE (va_recv hK hP (ci := 8) (q0 := 0) rfl rfl) rfl hl.1 rfl (Nat.le_of_ble_eq_true rfl) dX8_hasShape_3 ⟨Nat.le_of_ble_eq_true rfl, Nat.le_of_ble_eq_true rfl⟩ ?_
  refine lv_aload_n hx hb dX8_hasShape_6 rfl (lv_at hl 0 rfl) ?_
  refine va_get (D := G) (ci := 8) (v := .int (Z 0 13)) (C := RX8) (T := TX8) (N := 16) hx hb hts hinX8 hown hK hP 0 rfl rfl 13 (by decide) lk60 (fun _ h9 => h9) rfl dX8_hasShape_7 ?_
  refine n_top (y := nI n) hmany ?_
  have J_1 : ∀ y9 : Int32, y9 = (bI (mHSl Z mm n 0)) → W p l e (headSpec wsX8_hasShape (rmD 2 0 0)).room s m args below meth c s.heap [] 0 0 Q0 (F0 m 18 ls (.int y9 :: [])) := by
    intro y9 hy9
    subst hy9
    refine lv_istore_n (lv' := [(2, .int (bI (mHSl Z mm n 0))), (0, .ref (q 0)), (1, .int (nI mm))]) hx hb dX8_hasShape_18 rfl hl (by decide) rfl (fun ls hl => ?_)
    refine n_iconst hx hb 0 dX8_hasShape_19 (by decide) ?_
    refine lv_istore_n (lv' := [(3, .int (nI 0)), (2, .int (bI (mHSl Z mm n 0))), (0, .ref (q 0)), (1, .int (nI mm))]) hx hb dX8_hasShape_20 rfl hl (by decide) rfl (fun ls hl => ?_)
    have L21 : ∀ (n9 k : Nat) (hk1 : k ≤ n) (hk2 : n - k < n9) (x3 : Int32) (x2 : Int32) (hx3 : x3 = nI k) (hx2 : x2 = bI (mHSl Z mm n k)) (ls : Array Slot) (hl : lv_has ls 4 [(3, .int x3), (2, .int x2), (0, .ref (q 0)), (1, .int (nI mm))]), W p l e (headSpec wsX8_hasShape (rmD 2 0 0)).room s m args below meth c s.heap [] 0 0 Q0 (F0 m 21 ls []) := by
      intro n9
      induction n9 with
      | zero => intros; omega
      | succ n9 ih21 =>
        intro k hk1 hk2 x3 x2 hx3 hx2 ls hl
        subst hx3 hx2
        refine lv_iload_n hx hb dX8_hasShape_21 rfl (lv_at hl 0 rfl) ?_
        refine lv_aload_n hx hb dX8_hasShape_22 rfl (lv_at hl 2 rfl) ?_
        refine va_get (D := G) (ci := 8) (v := .int (Z 0 13)) (C := RX8) (T := TX8) (N := 16) hx hb hts hinX8 hown hK hP 0 rfl rfl 13 (by decide) lk60 (fun _ h9 => h9) rfl dX8_hasShape_23 ?_
        refine n_top (y := nI n) hmany ?_
        refine n_icmp_ge (a := k) (b := n) (tgt := 59) hx hb (by omega) (by omega) dX8_hasShape_26 (by decide) (fun c_2 => ?_) (fun c_3 => ?_)
        · skip
          refine lv_iload_n hx hb dX8_hasShape_59 rfl (lv_at hl 1 rfl) ?_
          subst hQ
          exact e_roz hx hb hr hlocks (by first | rfl | exact nar_b _) (by first | (exact congrArg bI ((c_2).trans (mHSl_f c_2 n hk1).symm)) | (obtain rfl : k = n := (by omega); rfl)) dX8_hasShape_60
        · skip
          refine lv_iload_n hx hb dX8_hasShape_29 rfl (lv_at hl 1 rfl) ?_
          refine b_if_eq (b := mHSl Z mm n k) (tgt := 59) hx hb dX8_hasShape_30 (by decide) (fun c_4 => ?_) (fun c_5 => ?_)
          · skip
            refine lv_iload_n hx hb dX8_hasShape_59 rfl (lv_at hl 1 rfl) ?_
            subst hQ
            exact e_roz hx hb hr hlocks (by first | rfl | exact nar_b _) (by first | (exact congrArg bI ((c_4).trans (mHSl_f c_4 n hk1).symm)) | (obtain rfl : k = n := (by omega); rfl)) dX8_hasShape_60
          · skip
            refine lv_aload_n hx hb dX8_hasShape_33 rfl (lv_at hl 2 rfl) ?_
            refine lv_iload_n hx hb dX8_hasShape_34 rfl (lv_at hl 3 rfl) ?_
            refine lv_iload_n hx hb dX8_hasShape_35 rfl (lv_at hl 0 rfl) ?_
            refine k_roV (As := [.int (nI mm), .int (nI k)]) (rest := []) (wc := oX8 T q Z g) (d := 1) (v := mSh Z mm k) cx (c_X8_shapeOf l G T A q Z g mm k (by omega) (by omega)) (cwV 2 hts gX8_hasShape_X8_shapeOf rfl rfl rfl (by decide +kernel) ⟨Nat.le_of_ble_eq_true rfl, Nat.le_of_ble_eq_true rfl⟩) hP hK hE (va_recv hK hP (ci := 8) (q0 := 0) rfl rfl) rfl hl.1 rfl (Nat.le_of_ble_eq_true rfl) dX8_hasShape_36 ⟨Nat.le_of_ble_eq_true rfl, Nat.le_of_ble_eq_true rfl⟩ ?_
            refine lv_aload_n hx hb dX8_hasShape_39 rfl (lv_at hl 2 rfl) ?_
            refine lv_iload_n hx hb dX8_hasShape_40 rfl (lv_at hl 0 rfl) ?_
            refine k_roV (As := [.int (nI k)]) (rest := [.int (mSh Z mm k)]) (wc := oX8 T q Z g) (d := 0) (v := mShT Z k) cx (c_X8_shapeOfTune l G T A q Z g k (by omega)) (cwV 1 hts gX8_hasShape_X8_shapeOfTune rfl rfl rfl (by decide +kernel) ⟨Nat.le_of_ble_eq_true rfl, Nat.le_of_ble_eq_true rfl⟩) hP hK hE (va_recv hK hP (ci := 8) (q0 := 0) rfl rfl) rfl hl.1 rfl (Nat.le_of_ble_eq_true rfl) dX8_hasShape_41 ⟨Nat.le_of_ble_eq_true rfl, Nat.le_of_ble_eq_true rfl⟩ ?_
            have J_6 : ∀ y9 : Int32, y9 = (bI (mHSl Z mm n (k + 1))) → W p l e (headSpec wsX8_hasShape (rmD 2 0 0)).room s m args below meth c s.heap [] 0 0 Q0 (F0 m 52 ls (.int y9 :: [])) := by
              intro y9 hy9
              subst hy9
              refine lv_istore_n (lv' := [(2, .int (bI (mHSl Z mm n (k + 1)))), (3, .int (nI k)), (0, .ref (q 0)), (1, .int (nI mm))]) hx hb dX8_hasShape_52 rfl hl (by decide) rfl (fun ls hl => ?_)
              refine lv_iinc (v := nI (k + 1)) (lv' := [(3, .int (nI (k + 1))), (2, .int (bI (mHSl Z mm n (k + 1)))), (0, .ref (q 0)), (1, .int (nI mm))]) hx hb dX8_hasShape_53 hl (k := 1) rfl (n_inc k 1 rfl) (by decide) rfl (fun ls hl => ?_)
              refine lv_goto (tgt := 21) hx hb dX8_hasShape_56 (by decide) ?_
              exact ih21 (k + 1) (by omega) (by omega) _ _ rfl rfl _ (lv_sub hl [0, 1, 2, 3] rfl)
            refine lv_icmp_ne (tgt := 51) hx hb dX8_hasShape_44 (by decide) (fun c_7 => ?_) (fun c_8 => ?_)
            · skip
              refine n_iconst hx hb 0 dX8_hasShape_51 (by decide) ?_
              exact J_6 _ (by simp [mHSl, bI, c_3, c_5, c_7])
            · skip
              refine n_iconst hx hb 1 dX8_hasShape_47 (by decide) ?_
              refine lv_goto (tgt := 52) hx hb dX8_hasShape_48 (by decide) ?_
              exact J_6 _ (by simp [mHSl, bI, c_3, c_5, c_8])
    exact L21 (n + 1) 0 (by omega) (by omega) _ _ rfl rfl _ (lv_sub hl [0, 1, 2, 3] rfl)
  refine lv_icmp_ne (tgt := 17) hx hb dX8_hasShape_10 (by decide) (fun c_9 => ?_) (fun c_10 => ?_)
  · skip
    refine n_iconst hx hb 0 dX8_hasShape_17 (by decide) ?_
    exact J_1 _ (by simp [mHSl, bI, c_9])
  · skip
    refine n_iconst hx hb 1 dX8_hasShape_13 (by decide) ?_
    refine lv_goto (tgt := 18) hx hb dX8_hasShape_14 (by decide) ?_
    exact J_1 _ (by simp [mHSl, bI, c_10])
set_option maxHeartbeats 4000000 in
set_option maxRecDepth 100000 in
theorem c_X8_isTune (l : Launch) (G : va_G) (T : Nat → ClassId) (A : Nat → Prop) (q : Nat → Nat) (Z : Nat → Nat → Int32) (g : Int64) : RO l yX8_isTune wsX8_isTune 1 G T A (oX8 T q Z g) [.ref (q 0)] (bI (mTu Z)) := by
  refine Met.ofW (cc := cX8_isTune) (maxL := 1) (ret := (some .boolean)) (by decide) rfl ?_
  intro p e s m args below meth c s₁ B hml hv
  obtain ⟨ha, hP, hK, hE⟩ := hv
  have hx := B.exec
  have hb := B.bytes
  have hr := B.returns
  have hlocks := B.notSynchronized
  have hts := atoms_spec (ws := wsX8_isTune) B.pre
  have hown : s.vm.findClass RX8 = some m.cls := findClass_of_methodNamed B.named
  have cx : CallFix p m c cX8_isTune 1 s args wsX8_isTune RX8 := ⟨hx, hb, hml, hown, hts⟩
  refine w_entry ha (Nat.le_of_ble_eq_true rfl) (fun ls hl => ?_)
  refine w_q (fun Q0 hQ => ?_)
  have lk60 := hts (.fieldLink RX8 60 "WhistleTunesModel" "many" "I") (by decide +kernel)
  have hinX8 : ∀ w ∈ wsX80, w ∈ wsX8_isTune := by decide +kernel
  have hl : lv_has ls 1 [(0, .ref (q 0))] := hl
  have hP : va_P G vwCl [(q 0, .inr (8, [.int (Z 0 0), .ref (q 2), .ref (q 3), .int (Z 0 3), .ref (q 5), .int (Z 0 5), .ref (q 7), .int (Z 0 7), .int (Z 0 8), .int (Z 0 9), .int (Z 0 10), .int (Z 0 11), .ref (q 13), .int (Z 0 13), .ref (q 15), .long g])), (q 2, .inl (T 0, 267, .inl (Z 2))), (q 3, .inl (T 0, 1602, .inl (Z 3))), (q 5, .inl (T 0, 267, .inl (Z 5))), (q 7, .inl (T 0, 60, .inl (Z 7))), (q 13, .inl (T 0, 8, .inl (Z 13))), (q 15, .inl (T 0, 3, .inl (Z 15)))] s.heap := hP
  refine lv_aload_n hx hb dX8_isTune_0 rfl (lv_at hl 0 rfl) ?_
  refine va_get (D := G) (ci := 8) (v := .int (Z 0 13)) (C := RX8) (T := TX8) (N := 16) hx hb hts hinX8 hown hK hP 0 rfl rfl 13 (by decide) lk60 (fun _ h9 => h9) rfl dX8_isTune_1 ?_
  refine n_iconst hx hb 2 dX8_isTune_4 (by decide) ?_
  refine lv_bipush (v := nI 8) hx hb dX8_isTune_5 (by decide) ?_
  refine k_roS (As := [.int (Z 0 13), .int (nI 2), .int (nI 8)]) (rest := []) (wc := []) (d := 0) (v := bI (pWi (Z 0 13) (nI 2) (nI 8))) cx (c_X8_within l G T A (Z 0 13) (nI 2) (nI 8) ) (va_cwS 3 hts gX8_isTune_X8_within rfl rfl rfl (by decide +kernel) ⟨Nat.le_of_ble_eq_true rfl, Nat.le_of_ble_eq_true rfl⟩) (hP.sub (ws' := []) [] rfl) hK hE rfl hl.1 rfl (Nat.le_of_ble_eq_true rfl) dX8_isTune_7 ⟨Nat.le_of_ble_eq_true rfl, Nat.le_of_ble_eq_true rfl⟩ ?_
  subst hQ
  exact e_roz hx hb hr hlocks (by first | rfl | exact nar_b _) rfl dX8_isTune_10
set_option maxHeartbeats 4000000 in
set_option maxRecDepth 100000 in
theorem c_X8_whyNotTaught (l : Launch) (G : va_G) (T : Nat → ClassId) (A : Nat → Prop) (q : Nat → Nat) (Z : Nat → Nat → Int32) (g : Int64) (mm : Nat) (n : Nat) (hm20 : mm < 20) (hmany : Z 0 13 = nI n) (hn9 : n ≤ 9) : RO l yX8_whyNotTaught wsX8_whyNotTaught 3 G T A (oX8 T q Z g) [.ref (q 0), .int (nI mm)] (mWT Z mm n) := by
  refine Met.ofW (cc := cX8_whyNotTaught) (maxL := 3) (ret := (some .int)) (by decide) rfl ?_
  intro p e s m args below meth c s₁ B hml hv
  obtain ⟨ha, hP, hK, hE⟩ := hv
  have hx := B.exec
  have hb := B.bytes
  have hr := B.returns
  have hlocks := B.notSynchronized
  have hts := atoms_spec (ws := wsX8_whyNotTaught) B.pre
  have hown : s.vm.findClass RX8 = some m.cls := findClass_of_methodNamed B.named
  have cx : CallFix p m c cX8_whyNotTaught 3 s args wsX8_whyNotTaught RX8 := ⟨hx, hb, hml, hown, hts⟩
  refine w_entry ha (Nat.le_of_ble_eq_true rfl) (fun ls hl => ?_)
  refine w_q (fun Q0 hQ => ?_)
  have hl : lv_has ls 3 [(0, .ref (q 0)), (1, .int (nI mm))] := hl
  have hP : va_P G vwCl [(q 0, .inr (8, [.int (Z 0 0), .ref (q 2), .ref (q 3), .int (Z 0 3), .ref (q 5), .int (Z 0 5), .ref (q 7), .int (Z 0 7), .int (Z 0 8), .int (Z 0 9), .int (Z 0 10), .int (Z 0 11), .ref (q 13), .int (Z 0 13), .ref (q 15), .long g])), (q 2, .inl (T 0, 267, .inl (Z 2))), (q 3, .inl (T 0, 1602, .inl (Z 3))), (q 5, .inl (T 0, 267, .inl (Z 5))), (q 7, .inl (T 0, 60, .inl (Z 7))), (q 13, .inl (T 0, 8, .inl (Z 13))), (q 15, .inl (T 0, 3, .inl (Z 15)))] s.heap := hP
  refine lv_aload_n hx hb dX8_whyNotTaught_0 rfl (lv_at hl 0 rfl) ?_
  refine k_roV (As := []) (rest := []) (wc := oX8 T q Z g) (d := 1) (v := bI (mTu Z)) cx (c_X8_isTune l G T A q Z g ) (cwV 0 hts gX8_whyNotTaught_X8_isTune rfl rfl rfl (by decide +kernel) ⟨Nat.le_of_ble_eq_true rfl, Nat.le_of_ble_eq_true rfl⟩) hP hK hE (va_recv hK hP (ci := 8) (q0 := 0) rfl rfl) rfl hl.1 rfl (Nat.le_of_ble_eq_true rfl) dX8_whyNotTaught_1 ⟨Nat.le_of_ble_eq_true rfl, Nat.le_of_ble_eq_true rfl⟩ ?_
  refine b_if_ne (b := mTu Z) (tgt := 9) hx hb dX8_whyNotTaught_4 (by decide) (fun c_1 => ?_) (fun c_2 => ?_)
  · skip
    have hn8 : n ≤ 8 := mTu_le hmany hn9 c_1
    refine n_iconst hx hb 0 dX8_whyNotTaught_9 (by decide) ?_
    refine lv_istore_n (lv' := [(2, .int (nI 0)), (0, .ref (q 0)), (1, .int (nI mm))]) hx hb dX8_whyNotTaught_10 rfl hl (by decide) rfl (fun ls hl => ?_)
    have L11 : ∀ (n9 k : Nat) (hk1 : k ≤ 20) (hk2 : 20 - k < n9) (hno : mWc Z mm n k = false) (x2 : Int32) (hx2 : x2 = nI k) (ls : Array Slot) (hl : lv_has ls 3 [(2, .int x2), (0, .ref (q 0)), (1, .int (nI mm))]), W p l e (headSpec wsX8_whyNotTaught (rmD 3 0 0)).room s m args below meth c s.heap [] 0 0 Q0 (F0 m 11 ls []) := by
      intro n9
      induction n9 with
      | zero => intros; omega
      | succ n9 ih11 =>
        intro k hk1 hk2 hno x2 hx2 ls hl
        subst hx2
        refine lv_iload_n hx hb dX8_whyNotTaught_11 rfl (lv_at hl 0 rfl) ?_
        refine lv_bipush (v := nI 20) hx hb dX8_whyNotTaught_12 (by decide) ?_
        refine n_icmp_ge (a := k) (b := 20) (tgt := 38) hx hb (by omega) (by decide) dX8_whyNotTaught_14 (by decide) (fun c_3 => ?_) (fun c_4 => ?_)
        · skip
          refine n_iconst hx hb 0 dX8_whyNotTaught_38 (by decide) ?_
          subst hQ
          exact e_ro hx hb hr hlocks (by obtain rfl : k = 20 := (by omega); simp [mWT, hno, c_1, c_3]) dX8_whyNotTaught_39
        · skip
          refine lv_iload_n hx hb dX8_whyNotTaught_17 rfl (lv_at hl 0 rfl) ?_
          refine lv_iload_n hx hb dX8_whyNotTaught_18 rfl (lv_at hl 2 rfl) ?_
          refine n_icmp_eq (a := k) (b := mm) (tgt := 32) hx hb (by omega) (by omega) dX8_whyNotTaught_19 (by decide) (fun c_5 => ?_) (fun c_6 => ?_)
          · skip
            refine lv_iinc (v := nI (k + 1)) (lv' := [(2, .int (nI (k + 1))), (0, .ref (q 0)), (1, .int (nI mm))]) hx hb dX8_whyNotTaught_32 hl (k := 0) rfl (n_inc k 1 rfl) (by decide) rfl (fun ls hl => ?_)
            refine lv_goto (tgt := 11) hx hb dX8_whyNotTaught_35 (by decide) ?_
            exact ih11 (k + 1) (by omega) (by omega) (by simp only [mWc, hno, Bool.false_or]; simp [c_1, c_4, c_5]) _ rfl _ (lv_sub hl [0, 1, 2] rfl)
          · skip
            refine lv_aload_n hx hb dX8_whyNotTaught_22 rfl (lv_at hl 1 rfl) ?_
            refine lv_iload_n hx hb dX8_whyNotTaught_23 rfl (lv_at hl 0 rfl) ?_
            refine k_roV (As := [.int (nI k)]) (rest := []) (wc := oX8 T q Z g) (d := 2) (v := bI (mHS Z k n)) cx (c_X8_hasShape l G T A q Z g k n (by omega) (by first | assumption | rfl | omega) (by omega)) (cwV 1 hts gX8_whyNotTaught_X8_hasShape rfl rfl rfl (by decide +kernel) ⟨Nat.le_of_ble_eq_true rfl, Nat.le_of_ble_eq_true rfl⟩) hP hK hE (va_recv hK hP (ci := 8) (q0 := 0) rfl rfl) rfl hl.1 rfl (Nat.le_of_ble_eq_true rfl) dX8_whyNotTaught_24 ⟨Nat.le_of_ble_eq_true rfl, Nat.le_of_ble_eq_true rfl⟩ ?_
            refine b_if_eq (b := mHS Z k n) (tgt := 32) hx hb dX8_whyNotTaught_27 (by decide) (fun c_7 => ?_) (fun c_8 => ?_)
            · skip
              refine lv_iinc (v := nI (k + 1)) (lv' := [(2, .int (nI (k + 1))), (0, .ref (q 0)), (1, .int (nI mm))]) hx hb dX8_whyNotTaught_32 hl (k := 0) rfl (n_inc k 1 rfl) (by decide) rfl (fun ls hl => ?_)
              refine lv_goto (tgt := 11) hx hb dX8_whyNotTaught_35 (by decide) ?_
              exact ih11 (k + 1) (by omega) (by omega) (by simp only [mWc, hno, Bool.false_or]; simp [c_1, c_4, c_6, c_7]) _ rfl _ (lv_sub hl [0, 1, 2] rfl)
            · skip
              refine n_iconst hx hb 4 dX8_whyNotTaught_30 (by decide) ?_
              subst hQ
              exact e_ro hx hb hr hlocks (by have hz := mWc_t (k := k + 1) (show mWc Z mm n (k + 1) = true from by simp [mWc, c_1, c_4, c_6, c_8]) 20 (by omega); simp [mWT, hz, c_1, c_4, c_6, c_8]) dX8_whyNotTaught_31
    exact L11 (20 + 1) 0 (by omega) (by omega) rfl _ rfl _ (lv_sub hl [0, 1, 2] rfl)
  · skip
    refine n_iconst hx hb 3 dX8_whyNotTaught_7 (by decide) ?_
    subst hQ
    exact e_ro hx hb hr hlocks (by simp [mWT, c_2]) dX8_whyNotTaught_8
set_option maxHeartbeats 4000000 in
set_option maxRecDepth 100000 in
theorem c_X8_decoded (l : Launch) (G : va_G) (T : Nat → ClassId) (A : Nat → Prop) (q : Nat → Nat) (Z : Nat → Nat → Int32) (g : Int64) (key : Int32) (n : Nat) (hmany : Z 0 13 = nI n) (hn9 : n ≤ 9) : RO l yX8_decoded wsX8_decoded 3 G T A (oX8 T q Z g) [.ref (q 0), .int key] (mDe Z n key) := by
  refine Met.ofW (cc := cX8_decoded) (maxL := 3) (ret := (some .int)) (by decide) rfl ?_
  intro p e s m args below meth c s₁ B hml hv
  obtain ⟨ha, hP, hK, hE⟩ := hv
  have hx := B.exec
  have hb := B.bytes
  have hr := B.returns
  have hlocks := B.notSynchronized
  have hts := atoms_spec (ws := wsX8_decoded) B.pre
  have hown : s.vm.findClass RX8 = some m.cls := findClass_of_methodNamed B.named
  have cx : CallFix p m c cX8_decoded 3 s args wsX8_decoded RX8 := ⟨hx, hb, hml, hown, hts⟩
  refine w_entry ha (Nat.le_of_ble_eq_true rfl) (fun ls hl => ?_)
  refine w_q (fun Q0 hQ => ?_)
  have lk22 := hts (.fieldLink RX8 22 "WhistleTunesModel" "tune" "[I") (by decide +kernel)
  have hinX8 : ∀ w ∈ wsX80, w ∈ wsX8_decoded := by decide +kernel
  have hl : lv_has ls 3 [(0, .ref (q 0)), (1, .int key)] := hl
  have hP : va_P G vwCl [(q 0, .inr (8, [.int (Z 0 0), .ref (q 2), .ref (q 3), .int (Z 0 3), .ref (q 5), .int (Z 0 5), .ref (q 7), .int (Z 0 7), .int (Z 0 8), .int (Z 0 9), .int (Z 0 10), .int (Z 0 11), .ref (q 13), .int (Z 0 13), .ref (q 15), .long g])), (q 2, .inl (T 0, 267, .inl (Z 2))), (q 3, .inl (T 0, 1602, .inl (Z 3))), (q 5, .inl (T 0, 267, .inl (Z 5))), (q 7, .inl (T 0, 60, .inl (Z 7))), (q 13, .inl (T 0, 8, .inl (Z 13))), (q 15, .inl (T 0, 3, .inl (Z 15)))] s.heap := hP
  refine n_iconst hx hb 0 dX8_decoded_0 (by decide) ?_
  refine lv_istore_n (lv' := [(2, .int (nI 0)), (0, .ref (q 0)), (1, .int key)]) hx hb dX8_decoded_1 rfl hl (by decide) rfl (fun ls hl => ?_)
  have L2 : ∀ (n9 k : Nat) (hk1 : k ≤ 20) (hk2 : 20 - k < n9) (hno : mDe Z n key = mFind (mDeP Z n key) (20 - k) k) (x2 : Int32) (hx2 : x2 = nI k) (ls : Array Slot) (hl : lv_has ls 3 [(2, .int x2), (0, .ref (q 0)), (1, .int key)]), W p l e (headSpec wsX8_decoded (rmD 3 0 0)).room s m args below meth c s.heap [] 0 0 Q0 (F0 m 2 ls []) := by
    intro n9
    induction n9 with
    | zero => intros; omega
    | succ n9 ih2 =>
      intro k hk1 hk2 hno x2 hx2 ls hl
      subst hx2
      refine lv_iload_n hx hb dX8_decoded_2 rfl (lv_at hl 0 rfl) ?_
      refine lv_bipush (v := nI 20) hx hb dX8_decoded_3 (by decide) ?_
      refine n_icmp_ge (a := k) (b := 20) (tgt := 54) hx hb (by omega) (by decide) dX8_decoded_5 (by decide) (fun c_1 => ?_) (fun c_2 => ?_)
      · skip
        refine lv_iconst (v := -1) hx hb dX8_decoded_54 (by decide) ?_
        subst hQ
        exact e_ro hx hb hr hlocks (by obtain rfl : k = 20 := (by omega); rw [hno]; rfl) dX8_decoded_55
      · skip
        refine lv_aload_n hx hb dX8_decoded_8 rfl (lv_at hl 1 rfl) ?_
        refine k_roV (As := []) (rest := []) (wc := oX8 T q Z g) (d := 1) (v := bI (mTu Z)) cx (c_X8_isTune l G T A q Z g ) (cwV 0 hts gX8_decoded_X8_isTune rfl rfl rfl (by decide +kernel) ⟨Nat.le_of_ble_eq_true rfl, Nat.le_of_ble_eq_true rfl⟩) hP hK hE (va_recv hK hP (ci := 8) (q0 := 0) rfl rfl) rfl hl.1 rfl (Nat.le_of_ble_eq_true rfl) dX8_decoded_9 ⟨Nat.le_of_ble_eq_true rfl, Nat.le_of_ble_eq_true rfl⟩ ?_
        refine b_if_eq (b := mTu Z) (tgt := 48) hx hb dX8_decoded_12 (by decide) (fun c_3 => ?_) (fun c_4 => ?_)
        · skip
          refine lv_iinc (v := nI (k + 1)) (lv' := [(2, .int (nI (k + 1))), (0, .ref (q 0)), (1, .int key)]) hx hb dX8_decoded_48 hl (k := 0) rfl (n_inc k 1 rfl) (by decide) rfl (fun ls hl => ?_)
          refine lv_goto (tgt := 2) hx hb dX8_decoded_51 (by decide) ?_
          exact ih2 (k + 1) (by omega) (by omega) (by rw [hno, mFind_n (by omega) (by simp [mDeP, c_2, c_3])]) _ rfl _ (lv_sub hl [0, 1, 2] rfl)
        · skip
          have hn8 : n ≤ 8 := mTu_le hmany hn9 c_4
          refine lv_aload_n hx hb dX8_decoded_15 rfl (lv_at hl 1 rfl) ?_
          refine lv_iload_n hx hb dX8_decoded_16 rfl (lv_at hl 0 rfl) ?_
          refine k_roV (As := [.int (nI k)]) (rest := []) (wc := oX8 T q Z g) (d := 2) (v := bI (mHS Z k n)) cx (c_X8_hasShape l G T A q Z g k n (by omega) (by first | assumption | rfl | omega) (by omega)) (cwV 1 hts gX8_decoded_X8_hasShape rfl rfl rfl (by decide +kernel) ⟨Nat.le_of_ble_eq_true rfl, Nat.le_of_ble_eq_true rfl⟩) hP hK hE (va_recv hK hP (ci := 8) (q0 := 0) rfl rfl) rfl hl.1 rfl (Nat.le_of_ble_eq_true rfl) dX8_decoded_17 ⟨Nat.le_of_ble_eq_true rfl, Nat.le_of_ble_eq_true rfl⟩ ?_
          refine b_if_eq (b := mHS Z k n) (tgt := 48) hx hb dX8_decoded_20 (by decide) (fun c_5 => ?_) (fun c_6 => ?_)
          · skip
            refine lv_iinc (v := nI (k + 1)) (lv' := [(2, .int (nI (k + 1))), (0, .ref (q 0)), (1, .int key)]) hx hb dX8_decoded_48 hl (k := 0) rfl (n_inc k 1 rfl) (by decide) rfl (fun ls hl => ?_)
            refine lv_goto (tgt := 2) hx hb dX8_decoded_51 (by decide) ?_
            exact ih2 (k + 1) (by omega) (by omega) (by rw [hno, mFind_n (by omega) (by simp [mDeP, c_2, c_4, c_5])]) _ rfl _ (lv_sub hl [0, 1, 2] rfl)
          · skip
            refine lv_aload_n hx hb dX8_decoded_23 rfl (lv_at hl 1 rfl) ?_
            refine lv_iload_n hx hb dX8_decoded_24 rfl (lv_at hl 0 rfl) ?_
            refine n_iconst hx hb 3 dX8_decoded_25 (by decide) ?_
            refine k_roV (As := [.int (nI k), .int (nI 3)]) (rest := []) (wc := oX8 T q Z g) (d := 0) (v := (Z 2) (47 + 11 * k + 3)) cx (c_X8_ofMessage l G T A q Z g k 3 (by omega) (by omega)) (cwV 2 hts gX8_decoded_X8_ofMessage rfl rfl rfl (by decide +kernel) ⟨Nat.le_of_ble_eq_true rfl, Nat.le_of_ble_eq_true rfl⟩) hP hK hE (va_recv hK hP (ci := 8) (q0 := 0) rfl rfl) rfl hl.1 rfl (Nat.le_of_ble_eq_true rfl) dX8_decoded_26 ⟨Nat.le_of_ble_eq_true rfl, Nat.le_of_ble_eq_true rfl⟩ ?_
            refine lv_aload_n hx hb dX8_decoded_29 rfl (lv_at hl 1 rfl) ?_
            refine va_get (D := G) (ci := 8) (v := .ref (q 13)) (C := RX8) (T := TX8) (N := 16) hx hb hts hinX8 hown hK hP 0 rfl rfl 12 (by decide) lk22 (fun _ h9 => h9) rfl dX8_decoded_30 ?_
            refine n_iconst hx hb 0 dX8_decoded_33 (by decide) ?_
            refine n_iald hx hb hK hP 5 0 rfl rfl 0 (by decide) (by decide) dX8_decoded_34 ?_
            refine lv_iload_n hx hb dX8_decoded_35 rfl (lv_at hl 2 rfl) ?_
            refine lv_isub hx hb dX8_decoded_36 ?_
            refine lv_bipush (v := nI 7) hx hb dX8_decoded_37 (by decide) ?_
            refine lv_iadd hx hb dX8_decoded_39 ?_
            refine lv_bipush (v := nI 7) hx hb dX8_decoded_40 (by decide) ?_
            refine x_irem hx hb (nI_ne0 (by decide) (by decide)) dX8_decoded_42 ?_
            refine lv_icmp_ne (tgt := 48) hx hb dX8_decoded_43 (by decide) (fun c_7 => ?_) (fun c_8 => ?_)
            · skip
              refine lv_iinc (v := nI (k + 1)) (lv' := [(2, .int (nI (k + 1))), (0, .ref (q 0)), (1, .int key)]) hx hb dX8_decoded_48 hl (k := 0) rfl (n_inc k 1 rfl) (by decide) rfl (fun ls hl => ?_)
              refine lv_goto (tgt := 2) hx hb dX8_decoded_51 (by decide) ?_
              exact ih2 (k + 1) (by omega) (by omega) (by rw [hno, mFind_n (by omega) (by simp [mDeP, c_2, c_4, c_6, c_7])]) _ rfl _ (lv_sub hl [0, 1, 2] rfl)
            · skip
              refine lv_iload_n hx hb dX8_decoded_46 rfl (lv_at hl 0 rfl) ?_
              subst hQ
              exact e_ro hx hb hr hlocks (by rw [hno, mFind_y (by omega) (by simp [mDeP, c_2, c_4, c_6, c_8])]) dX8_decoded_47
  exact L2 (20 + 1) 0 (by omega) (by omega) rfl _ rfl _ (lv_sub hl [0, 1, 2] rfl)
set_option maxHeartbeats 4000000 in
set_option maxRecDepth 100000 in
theorem c_X8_beginsAlike (l : Launch) (G : va_G) (T : Nat → ClassId) (A : Nat → Prop) (q : Nat → Nat) (Z : Nat → Nat → Int32) (g : Int64) (mm : Nat) (o : Nat) (n : Nat) (hm20 : mm < 20) (ho20 : o < 20) (hn8 : n ≤ 8) : RO l yX8_beginsAlike wsX8_beginsAlike 2 G T A (oX8 T q Z g) [.ref (q 0), .int (nI mm), .int (nI o), .int (nI n)] (bI (mBA Z mm o n n)) := by
  refine Met.ofW (cc := cX8_beginsAlike) (maxL := 6) (ret := (some .boolean)) (by decide) rfl ?_
  intro p e s m args below meth c s₁ B hml hv
  obtain ⟨ha, hP, hK, hE⟩ := hv
  have hx := B.exec
  have hb := B.bytes
  have hr := B.returns
  have hlocks := B.notSynchronized
  have hts := atoms_spec (ws := wsX8_beginsAlike) B.pre
  have hown : s.vm.findClass RX8 = some m.cls := findClass_of_methodNamed B.named
  have cx : CallFix p m c cX8_beginsAlike 6 s args wsX8_beginsAlike RX8 := ⟨hx, hb, hml, hown, hts⟩
  refine w_entry ha (Nat.le_of_ble_eq_true rfl) (fun ls hl => ?_)
  refine w_q (fun Q0 hQ => ?_)
  have hl : lv_has ls 6 [(0, .ref (q 0)), (1, .int (nI mm)), (2, .int (nI o)), (3, .int (nI n))] := hl
  have hP : va_P G vwCl [(q 0, .inr (8, [.int (Z 0 0), .ref (q 2), .ref (q 3), .int (Z 0 3), .ref (q 5), .int (Z 0 5), .ref (q 7), .int (Z 0 7), .int (Z 0 8), .int (Z 0 9), .int (Z 0 10), .int (Z 0 11), .ref (q 13), .int (Z 0 13), .ref (q 15), .long g])), (q 2, .inl (T 0, 267, .inl (Z 2))), (q 3, .inl (T 0, 1602, .inl (Z 3))), (q 5, .inl (T 0, 267, .inl (Z 5))), (q 7, .inl (T 0, 60, .inl (Z 7))), (q 13, .inl (T 0, 8, .inl (Z 13))), (q 15, .inl (T 0, 3, .inl (Z 15)))] s.heap := hP
  refine lv_aload_n hx hb dX8_beginsAlike_0 rfl (lv_at hl 0 rfl) ?_
  refine lv_iload_n hx hb dX8_beginsAlike_1 rfl (lv_at hl 2 rfl) ?_
  refine n_iconst hx hb 0 dX8_beginsAlike_2 (by decide) ?_
  refine k_roV (As := [.int (nI o), .int (nI 0)]) (rest := []) (wc := oX8 T q Z g) (d := 0) (v := (Z 2) (47 + 11 * o)) cx (c_X8_ofMessage l G T A q Z g o 0 (by omega) (by omega)) (cwV 2 hts gX8_beginsAlike_X8_ofMessage rfl rfl rfl (by decide +kernel) ⟨Nat.le_of_ble_eq_true rfl, Nat.le_of_ble_eq_true rfl⟩) hP hK hE (va_recv hK hP (ci := 8) (q0 := 0) rfl rfl) rfl hl.1 rfl (Nat.le_of_ble_eq_true rfl) dX8_beginsAlike_3 ⟨Nat.le_of_ble_eq_true rfl, Nat.le_of_ble_eq_true rfl⟩ ?_
  refine lv_iload_n hx hb dX8_beginsAlike_6 rfl (lv_at hl 3 rfl) ?_
  have J_1 : ∀ y9 : Int32, y9 = (bI (mBA Z mm o n 0)) → W p l e (headSpec wsX8_beginsAlike (rmD 2 0 0)).room s m args below meth c s.heap [] 0 0 Q0 (F0 m 15 ls (.int y9 :: [])) := by
    intro y9 hy9
    subst hy9
    refine lv_istore (lv' := [(4, .int (bI (mBA Z mm o n 0))), (0, .ref (q 0)), (1, .int (nI mm)), (2, .int (nI o)), (3, .int (nI n))]) hx hb dX8_beginsAlike_15 hl (by decide) rfl (fun ls hl => ?_)
    refine n_iconst hx hb 0 dX8_beginsAlike_17 (by decide) ?_
    refine lv_istore (lv' := [(5, .int (nI 0)), (4, .int (bI (mBA Z mm o n 0))), (0, .ref (q 0)), (1, .int (nI mm)), (2, .int (nI o)), (3, .int (nI n))]) hx hb dX8_beginsAlike_18 hl (by decide) rfl (fun ls hl => ?_)
    have L20 : ∀ (n9 k : Nat) (hk1 : k ≤ n) (hk2 : n - k < n9) (x5 : Int32) (x4 : Int32) (hx5 : x5 = nI k) (hx4 : x4 = bI (mBA Z mm o n k)) (ls : Array Slot) (hl : lv_has ls 6 [(5, .int x5), (4, .int x4), (0, .ref (q 0)), (1, .int (nI mm)), (2, .int (nI o)), (3, .int (nI n))]), W p l e (headSpec wsX8_beginsAlike (rmD 2 0 0)).room s m args below meth c s.heap [] 0 0 Q0 (F0 m 20 ls []) := by
      intro n9
      induction n9 with
      | zero => intros; omega
      | succ n9 ih20 =>
        intro k hk1 hk2 x5 x4 hx5 hx4 ls hl
        subst hx5 hx4
        refine lv_iload hx hb dX8_beginsAlike_20 (lv_at hl 0 rfl) ?_
        refine lv_iload_n hx hb dX8_beginsAlike_22 rfl (lv_at hl 5 rfl) ?_
        refine n_icmp_ge (a := k) (b := n) (tgt := 61) hx hb (by omega) (by omega) dX8_beginsAlike_23 (by decide) (fun c_2 => ?_) (fun c_3 => ?_)
        · skip
          refine lv_iload hx hb dX8_beginsAlike_61 (lv_at hl 1 rfl) ?_
          subst hQ
          exact e_roz hx hb hr hlocks (by first | rfl | exact nar_b _) (by first | (exact congrArg bI ((c_2).trans (mBA_f c_2 n hk1).symm)) | (obtain rfl : k = n := (by omega); rfl)) dX8_beginsAlike_63
        · skip
          refine lv_iload hx hb dX8_beginsAlike_26 (lv_at hl 1 rfl) ?_
          refine b_if_eq (b := mBA Z mm o n k) (tgt := 61) hx hb dX8_beginsAlike_28 (by decide) (fun c_4 => ?_) (fun c_5 => ?_)
          · skip
            refine lv_iload hx hb dX8_beginsAlike_61 (lv_at hl 1 rfl) ?_
            subst hQ
            exact e_roz hx hb hr hlocks (by first | rfl | exact nar_b _) (by first | (exact congrArg bI ((c_4).trans (mBA_f c_4 n hk1).symm)) | (obtain rfl : k = n := (by omega); rfl)) dX8_beginsAlike_63
          · skip
            refine lv_aload_n hx hb dX8_beginsAlike_31 rfl (lv_at hl 2 rfl) ?_
            refine lv_iload_n hx hb dX8_beginsAlike_32 rfl (lv_at hl 3 rfl) ?_
            refine lv_iload hx hb dX8_beginsAlike_33 (lv_at hl 0 rfl) ?_
            refine k_roV (As := [.int (nI mm), .int (nI k)]) (rest := []) (wc := oX8 T q Z g) (d := 1) (v := mSh Z mm k) cx (c_X8_shapeOf l G T A q Z g mm k (by omega) (by omega)) (cwV 2 hts gX8_beginsAlike_X8_shapeOf rfl rfl rfl (by decide +kernel) ⟨Nat.le_of_ble_eq_true rfl, Nat.le_of_ble_eq_true rfl⟩) hP hK hE (va_recv hK hP (ci := 8) (q0 := 0) rfl rfl) rfl hl.1 rfl (Nat.le_of_ble_eq_true rfl) dX8_beginsAlike_35 ⟨Nat.le_of_ble_eq_true rfl, Nat.le_of_ble_eq_true rfl⟩ ?_
            refine lv_aload_n hx hb dX8_beginsAlike_38 rfl (lv_at hl 2 rfl) ?_
            refine lv_iload_n hx hb dX8_beginsAlike_39 rfl (lv_at hl 4 rfl) ?_
            refine lv_iload hx hb dX8_beginsAlike_40 (lv_at hl 0 rfl) ?_
            refine k_roV (As := [.int (nI o), .int (nI k)]) (rest := [.int (mSh Z mm k)]) (wc := oX8 T q Z g) (d := 1) (v := mSh Z o k) cx (c_X8_shapeOf l G T A q Z g o k (by omega) (by omega)) (cwV 2 hts gX8_beginsAlike_X8_shapeOf rfl rfl rfl (by decide +kernel) ⟨Nat.le_of_ble_eq_true rfl, Nat.le_of_ble_eq_true rfl⟩) hP hK hE (va_recv hK hP (ci := 8) (q0 := 0) rfl rfl) rfl hl.1 rfl (Nat.le_of_ble_eq_true rfl) dX8_beginsAlike_42 ⟨Nat.le_of_ble_eq_true rfl, Nat.le_of_ble_eq_true rfl⟩ ?_
            have J_6 : ∀ y9 : Int32, y9 = (bI (mBA Z mm o n (k + 1))) → W p l e (headSpec wsX8_beginsAlike (rmD 2 0 0)).room s m args below meth c s.heap [] 0 0 Q0 (F0 m 53 ls (.int y9 :: [])) := by
              intro y9 hy9
              subst hy9
              refine lv_istore (lv' := [(4, .int (bI (mBA Z mm o n (k + 1)))), (5, .int (nI k)), (0, .ref (q 0)), (1, .int (nI mm)), (2, .int (nI o)), (3, .int (nI n))]) hx hb dX8_beginsAlike_53 hl (by decide) rfl (fun ls hl => ?_)
              refine lv_iinc (v := nI (k + 1)) (lv' := [(5, .int (nI (k + 1))), (4, .int (bI (mBA Z mm o n (k + 1)))), (0, .ref (q 0)), (1, .int (nI mm)), (2, .int (nI o)), (3, .int (nI n))]) hx hb dX8_beginsAlike_55 hl (k := 1) rfl (n_inc k 1 rfl) (by decide) rfl (fun ls hl => ?_)
              refine lv_goto (tgt := 20) hx hb dX8_beginsAlike_58 (by decide) ?_
              exact ih20 (k + 1) (by omega) (by omega) _ _ rfl rfl _ (lv_sub hl [0, 1, 2, 3, 4, 5] rfl)
            refine lv_icmp_ne (tgt := 52) hx hb dX8_beginsAlike_45 (by decide) (fun c_7 => ?_) (fun c_8 => ?_)
            · skip
              refine n_iconst hx hb 0 dX8_beginsAlike_52 (by decide) ?_
              exact J_6 _ (by simp [mBA, bI, c_3, c_5, c_7])
            · skip
              refine n_iconst hx hb 1 dX8_beginsAlike_48 (by decide) ?_
              refine lv_goto (tgt := 53) hx hb dX8_beginsAlike_49 (by decide) ?_
              exact J_6 _ (by simp [mBA, bI, c_3, c_5, c_8])
    exact L20 (n + 1) 0 (by omega) (by omega) _ _ rfl rfl _ (lv_sub hl [0, 1, 2, 3, 4, 5] rfl)
  refine lv_icmp_lt (tgt := 14) hx hb dX8_beginsAlike_7 (by decide) (fun c_9 => ?_) (fun c_10 => ?_)
  · skip
    refine n_iconst hx hb 0 dX8_beginsAlike_14 (by decide) ?_
    exact J_1 _ (by simp [mBA, bI, c_9])
  · skip
    refine n_iconst hx hb 1 dX8_beginsAlike_10 (by decide) ?_
    refine lv_goto (tgt := 15) hx hb dX8_beginsAlike_11 (by decide) ?_
    exact J_1 _ (by simp [mBA, bI, c_10])
set_option maxHeartbeats 4000000 in
set_option maxRecDepth 100000 in
theorem c_X8_isNear (l : Launch) (G : va_G) (T : Nat → ClassId) (A : Nat → Prop) (q : Nat → Nat) (Z : Nat → Nat → Int32) (g : Int64) (f : Nat) (o : Nat) (hf3 : f < 3) (ho3 : o < 3) : RO l yX8_isNear wsX8_isNear 0 G T A (oX8 T q Z g) [.ref (q 0), .int (nI f), .int (nI o)] (bI (mNear Z f o)) := by
  refine Met.ofW (cc := cX8_isNear) (maxL := 4) (ret := (some .boolean)) (by decide) rfl ?_
  intro p e s m args below meth c s₁ B hml hv
  obtain ⟨ha, hP, hK, hE⟩ := hv
  have hx := B.exec
  have hb := B.bytes
  have hr := B.returns
  have hlocks := B.notSynchronized
  have hts := atoms_spec (ws := wsX8_isNear) B.pre
  have hown : s.vm.findClass RX8 = some m.cls := findClass_of_methodNamed B.named
  have cx : CallFix p m c cX8_isNear 4 s args wsX8_isNear RX8 := ⟨hx, hb, hml, hown, hts⟩
  refine w_entry ha (Nat.le_of_ble_eq_true rfl) (fun ls hl => ?_)
  refine w_q (fun Q0 hQ => ?_)
  have lk7 := hts (.fieldLink RX8 7 "WhistleTunesModel" "state" "[I") (by decide +kernel)
  have hinX8 : ∀ w ∈ wsX80, w ∈ wsX8_isNear := by decide +kernel
  have hl : lv_has ls 4 [(0, .ref (q 0)), (1, .int (nI f)), (2, .int (nI o))] := hl
  have hP : va_P G vwCl [(q 0, .inr (8, [.int (Z 0 0), .ref (q 2), .ref (q 3), .int (Z 0 3), .ref (q 5), .int (Z 0 5), .ref (q 7), .int (Z 0 7), .int (Z 0 8), .int (Z 0 9), .int (Z 0 10), .int (Z 0 11), .ref (q 13), .int (Z 0 13), .ref (q 15), .long g])), (q 2, .inl (T 0, 267, .inl (Z 2))), (q 3, .inl (T 0, 1602, .inl (Z 3))), (q 5, .inl (T 0, 267, .inl (Z 5))), (q 7, .inl (T 0, 60, .inl (Z 7))), (q 13, .inl (T 0, 8, .inl (Z 13))), (q 15, .inl (T 0, 3, .inl (Z 15)))] s.heap := hP
  refine lv_iload_n hx hb dX8_isNear_0 rfl (lv_at hl 1 rfl) ?_
  refine lv_iload_n hx hb dX8_isNear_1 rfl (lv_at hl 2 rfl) ?_
  have J_1 : ∀ y9 : Int32, y9 = (nI (mApart f o)) → W p l e (headSpec wsX8_isNear (rmD 0 0 0)).room s m args below meth c s.heap [] 0 0 Q0 (F0 m 14 ls (.int y9 :: [])) := by
    intro y9 hy9
    subst hy9
    refine lv_istore_n (lv' := [(3, .int (nI (mApart f o))), (0, .ref (q 0)), (1, .int (nI f)), (2, .int (nI o))]) hx hb dX8_isNear_14 rfl hl (by decide) rfl (fun ls hl => ?_)
    refine lv_iload_n hx hb dX8_isNear_15 rfl (lv_at hl 0 rfl) ?_
    refine lv_aload_n hx hb dX8_isNear_16 rfl (lv_at hl 1 rfl) ?_
    refine va_get (D := G) (ci := 8) (v := .ref (q 2)) (C := RX8) (T := TX8) (N := 16) hx hb hts hinX8 hown hK hP 0 rfl rfl 1 (by decide) lk7 (fun _ h9 => h9) rfl dX8_isNear_17 ?_
    refine n_iconst hx hb 3 dX8_isNear_20 (by decide) ?_
    refine n_iald hx hb hK hP 1 0 rfl rfl 3 (by decide) (by decide) dX8_isNear_21 ?_
    refine lv_icmp_gt (tgt := 29) hx hb dX8_isNear_22 (by decide) (fun c_2 => ?_) (fun c_3 => ?_)
    · skip
      refine n_iconst hx hb 0 dX8_isNear_29 (by decide) ?_
      subst hQ
      exact e_roz hx hb hr hlocks (by first | rfl | exact nar_b _) (by simp [mNear, bI, c_2]) dX8_isNear_30
    · skip
      refine n_iconst hx hb 1 dX8_isNear_25 (by decide) ?_
      refine lv_goto (tgt := 30) hx hb dX8_isNear_26 (by decide) ?_
      subst hQ
      exact e_roz hx hb hr hlocks (by first | rfl | exact nar_b _) (by simp [mNear, bI, c_3]) dX8_isNear_30
  refine n_icmp_ge (a := f) (b := o) (tgt := 11) hx hb (by omega) (by omega) dX8_isNear_2 (by decide) (fun c_4 => ?_) (fun c_5 => ?_)
  · skip
    refine lv_iload_n hx hb dX8_isNear_11 rfl (lv_at hl 1 rfl) ?_
    refine lv_iload_n hx hb dX8_isNear_12 rfl (lv_at hl 2 rfl) ?_
    refine n_isub (a := f) (b := o) hx hb (by omega) dX8_isNear_13 ?_
    exact J_1 _ (by unfold mApart; first | rw [if_pos c_4] | rw [if_neg (Nat.not_lt.mpr c_4)])
  · skip
    refine lv_iload_n hx hb dX8_isNear_5 rfl (lv_at hl 2 rfl) ?_
    refine lv_iload_n hx hb dX8_isNear_6 rfl (lv_at hl 1 rfl) ?_
    refine n_isub (a := o) (b := f) hx hb (by omega) dX8_isNear_7 ?_
    refine lv_goto (tgt := 14) hx hb dX8_isNear_8 (by decide) ?_
    exact J_1 _ (by unfold mApart; first | rw [if_pos c_5] | rw [if_neg (Nat.not_lt.mpr c_5)])
set_option maxHeartbeats 4000000 in
set_option maxRecDepth 100000 in
theorem c_X8_floorsFrom (l : Launch) (G : va_G) (T : Nat → ClassId) (A : Nat → Prop) (q : Nat → Nat) (Z : Nat → Nat → Int32) (g : Int64) (f : Nat) (hf3 : f < 3) : RO l yX8_floorsFrom wsX8_floorsFrom 1 G T A (oX8 T q Z g) [.ref (q 0), .int (nI f)] (mF2 Z f 27) := by
  refine Met.ofW (cc := cX8_floorsFrom) (maxL := 6) (ret := (some .int)) (by decide) rfl ?_
  intro p e s m args below meth c s₁ B hml hv
  obtain ⟨ha, hP, hK, hE⟩ := hv
  have hx := B.exec
  have hb := B.bytes
  have hr := B.returns
  have hlocks := B.notSynchronized
  have hts := atoms_spec (ws := wsX8_floorsFrom) B.pre
  have hown : s.vm.findClass RX8 = some m.cls := findClass_of_methodNamed B.named
  have cx : CallFix p m c cX8_floorsFrom 6 s args wsX8_floorsFrom RX8 := ⟨hx, hb, hml, hown, hts⟩
  refine w_entry ha (Nat.le_of_ble_eq_true rfl) (fun ls hl => ?_)
  refine w_q (fun Q0 hQ => ?_)
  have lk7 := hts (.fieldLink RX8 7 "WhistleTunesModel" "state" "[I") (by decide +kernel)
  have hinX8 : ∀ w ∈ wsX80, w ∈ wsX8_floorsFrom := by decide +kernel
  have hl : lv_has ls 6 [(0, .ref (q 0)), (1, .int (nI f))] := hl
  have hP : va_P G vwCl [(q 0, .inr (8, [.int (Z 0 0), .ref (q 2), .ref (q 3), .int (Z 0 3), .ref (q 5), .int (Z 0 5), .ref (q 7), .int (Z 0 7), .int (Z 0 8), .int (Z 0 9), .int (Z 0 10), .int (Z 0 11), .ref (q 13), .int (Z 0 13), .ref (q 15), .long g])), (q 2, .inl (T 0, 267, .inl (Z 2))), (q 3, .inl (T 0, 1602, .inl (Z 3))), (q 5, .inl (T 0, 267, .inl (Z 5))), (q 7, .inl (T 0, 60, .inl (Z 7))), (q 13, .inl (T 0, 8, .inl (Z 13))), (q 15, .inl (T 0, 3, .inl (Z 15)))] s.heap := hP
  refine n_iconst hx hb 0 dX8_floorsFrom_0 (by decide) ?_
  refine lv_istore_n (lv' := [(2, .int (nI 0)), (0, .ref (q 0)), (1, .int (nI f))]) hx hb dX8_floorsFrom_1 rfl hl (by decide) rfl (fun ls hl => ?_)
  refine n_iconst hx hb 0 dX8_floorsFrom_2 (by decide) ?_
  refine lv_istore_n (lv' := [(3, .int (nI 0)), (2, .int (nI 0)), (0, .ref (q 0)), (1, .int (nI f))]) hx hb dX8_floorsFrom_3 rfl hl (by decide) rfl (fun ls hl => ?_)
  have L4 : ∀ (n9 k : Nat) (hk1 : k ≤ 3) (hk2 : 3 - k < n9) (x3 : Int32) (x2 : Int32) (hx3 : x3 = nI k) (hx2 : x2 = mF1 Z f k) (ls : Array Slot) (hl : lv_has ls 6 [(3, .int x3), (2, .int x2), (0, .ref (q 0)), (1, .int (nI f))]), W p l e (headSpec wsX8_floorsFrom (rmD 1 0 0)).room s m args below meth c s.heap [] 0 0 Q0 (F0 m 4 ls []) := by
    intro n9
    induction n9 with
    | zero => intros; omega
    | succ n9 ih4 =>
      intro k hk1 hk2 x3 x2 hx3 hx2 ls hl
      subst hx3 hx2
      refine lv_iload_n hx hb dX8_floorsFrom_4 rfl (lv_at hl 0 rfl) ?_
      refine n_iconst hx hb 3 dX8_floorsFrom_5 (by decide) ?_
      refine n_icmp_ge (a := k) (b := 3) (tgt := 34) hx hb (by omega) (by decide) dX8_floorsFrom_6 (by decide) (fun c_1 => ?_) (fun c_2 => ?_)
      · skip
        refine n_iconst hx hb 0 dX8_floorsFrom_34 (by decide) ?_
        refine lv_istore_n (lv' := [(3, .int (nI 0)), (2, .int (mF1 Z f k)), (0, .ref (q 0)), (1, .int (nI f))]) hx hb dX8_floorsFrom_35 rfl hl (by decide) rfl (fun ls hl => ?_)
        have L36_i_3 : ∀ (n9 k : Nat) (hk1 : k ≤ 27) (hk2 : 27 - k < n9) (x3 : Int32) (x2 : Int32) (hx3 : x3 = nI k) (hx2 : x2 = mF2 Z f k) (ls : Array Slot) (hl : lv_has ls 6 [(3, .int x3), (2, .int x2), (0, .ref (q 0)), (1, .int (nI f))]), W p l e (headSpec wsX8_floorsFrom (rmD 1 0 0)).room s m args below meth c s.heap [] 0 0 Q0 (F0 m 36 ls []) := by
          intro n9
          induction n9 with
          | zero => intros; omega
          | succ n9 ih36 =>
            intro k hk1 hk2 x3 x2 hx3 hx2 ls hl
            subst hx3 hx2
            refine lv_iload_n hx hb dX8_floorsFrom_36 rfl (lv_at hl 0 rfl) ?_
            refine lv_bipush (v := nI 27) hx hb dX8_floorsFrom_37 (by decide) ?_
            refine n_icmp_ge (a := k) (b := 27) (tgt := 107) hx hb (by omega) (by decide) dX8_floorsFrom_39 (by decide) (fun c_4 => ?_) (fun c_5 => ?_)
            · skip
              refine lv_iload_n hx hb dX8_floorsFrom_107 rfl (lv_at hl 1 rfl) ?_
              subst hQ
              exact e_ro hx hb hr hlocks (by obtain rfl : k = 27 := (by omega); rfl) dX8_floorsFrom_108
            · skip
              refine lv_iload_n hx hb dX8_floorsFrom_42 rfl (lv_at hl 0 rfl) ?_
              refine n_iconst hx hb 3 dX8_floorsFrom_43 (by decide) ?_
              refine n_idiv (a := k) (b := 3) hx hb (by omega) (by decide) (by decide) dX8_floorsFrom_44 ?_
              refine n_iconst hx hb 3 dX8_floorsFrom_45 (by decide) ?_
              refine n_irem (a := k / 3) (b := 3) hx hb (by omega) (by decide) (by decide) dX8_floorsFrom_46 ?_
              refine lv_istore (lv' := [(4, .int (nI ((k / 3) % 3))), (3, .int (nI k)), (2, .int (mF2 Z f k)), (0, .ref (q 0)), (1, .int (nI f))]) hx hb dX8_floorsFrom_47 hl (by decide) rfl (fun ls hl => ?_)
              refine lv_iload_n hx hb dX8_floorsFrom_49 rfl (lv_at hl 2 rfl) ?_
              refine lv_aload_n hx hb dX8_floorsFrom_50 rfl (lv_at hl 3 rfl) ?_
              refine va_get (D := G) (ci := 8) (v := .ref (q 2)) (C := RX8) (T := TX8) (N := 16) hx hb hts hinX8 hown hK hP 0 rfl rfl 1 (by decide) lk7 (fun _ h9 => h9) rfl dX8_floorsFrom_51 ?_
              refine n_iconst hx hb 2 dX8_floorsFrom_54 (by decide) ?_
              refine n_iald hx hb hK hP 1 0 rfl rfl 2 (by decide) (by decide) dX8_floorsFrom_55 ?_
              refine lv_iand hx hb dX8_floorsFrom_56 ?_
              refine n_iconst hx hb 1 dX8_floorsFrom_57 (by decide) ?_
              refine lv_iload hx hb dX8_floorsFrom_58 (lv_at hl 0 rfl) ?_
              refine x_ishl hx hb dX8_floorsFrom_60 ?_
              refine lv_iand hx hb dX8_floorsFrom_61 ?_
              have J_6 : ∀ y9 : Int32, y9 = (bI (mPs Z (mF2 Z f k) k)) → W p l e (headSpec wsX8_floorsFrom (rmD 1 0 0)).room s m args below meth c s.heap [] 0 0 Q0 (F0 m 70 ls (.int y9 :: [])) := by
                intro y9 hy9
                subst hy9
                refine lv_istore (lv' := [(5, .int (bI (mPs Z (mF2 Z f k) k))), (4, .int (nI ((k / 3) % 3))), (3, .int (nI k)), (2, .int (mF2 Z f k)), (0, .ref (q 0)), (1, .int (nI f))]) hx hb dX8_floorsFrom_70 hl (by decide) rfl (fun ls hl => ?_)
                refine lv_iload_n hx hb dX8_floorsFrom_72 rfl (lv_at hl 3 rfl) ?_
                refine lv_iload hx hb dX8_floorsFrom_73 (lv_at hl 0 rfl) ?_
                have J_7 : ∀ y9 : Int32, y9 = (if mPs Z (mF2 Z f k) k && mNear Z (k / 3 % 3) (k % 3) then iShl (nI 1) (nI (k % 3)) else nI 0) → W p l e (headSpec wsX8_floorsFrom (rmD 1 0 0)).room s m args below meth c s.heap [] 0 0 Q0 (F0 m 99 ls (.int y9 :: .int (mF2 Z f k) :: [])) := by
                  intro y9 hy9
                  subst hy9
                  refine lv_ior hx hb dX8_floorsFrom_99 ?_
                  refine lv_istore_n (lv' := [(2, .int ((mF2 Z f k) ||| (if mPs Z (mF2 Z f k) k && mNear Z (k / 3 % 3) (k % 3) then iShl (nI 1) (nI (k % 3)) else nI 0))), (5, .int (bI (mPs Z (mF2 Z f k) k))), (4, .int (nI ((k / 3) % 3))), (3, .int (nI k)), (0, .ref (q 0)), (1, .int (nI f))]) hx hb dX8_floorsFrom_100 rfl hl (by decide) rfl (fun ls hl => ?_)
                  refine lv_iinc (v := nI (k + 1)) (lv' := [(3, .int (nI (k + 1))), (2, .int ((mF2 Z f k) ||| (if mPs Z (mF2 Z f k) k && mNear Z (k / 3 % 3) (k % 3) then iShl (nI 1) (nI (k % 3)) else nI 0))), (5, .int (bI (mPs Z (mF2 Z f k) k))), (4, .int (nI ((k / 3) % 3))), (0, .ref (q 0)), (1, .int (nI f))]) hx hb dX8_floorsFrom_101 hl (k := 3) rfl (n_inc k 1 rfl) (by decide) rfl (fun ls hl => ?_)
                  refine lv_goto (tgt := 36) hx hb dX8_floorsFrom_104 (by decide) ?_
                  have e_8 : ((mF2 Z f k) ||| (if mPs Z (mF2 Z f k) k && mNear Z (k / 3 % 3) (k % 3) then iShl (nI 1) (nI (k % 3)) else nI 0)) = mF2 Z f (k + 1) := rfl
                  exact ih36 (k + 1) (by omega) (by omega) _ _ rfl e_8 _ (lv_sub hl [0, 1, 4, 5] rfl)
                refine b_if_eq (b := mPs Z (mF2 Z f k) k) (tgt := 98) hx hb dX8_floorsFrom_75 (by decide) (fun c_9 => ?_) (fun c_10 => ?_)
                · skip
                  refine n_iconst hx hb 0 dX8_floorsFrom_98 (by decide) ?_
                  exact J_7 _ (by simp [c_1, c_5, c_9])
                · skip
                  refine lv_aload_n hx hb dX8_floorsFrom_78 rfl (lv_at hl 4 rfl) ?_
                  refine lv_iload hx hb dX8_floorsFrom_79 (lv_at hl 1 rfl) ?_
                  refine lv_iload_n hx hb dX8_floorsFrom_81 rfl (lv_at hl 2 rfl) ?_
                  refine n_iconst hx hb 3 dX8_floorsFrom_82 (by decide) ?_
                  refine n_irem (a := k) (b := 3) hx hb (by omega) (by decide) (by decide) dX8_floorsFrom_83 ?_
                  refine k_roV (As := [.int (nI ((k / 3) % 3)), .int (nI (k % 3))]) (rest := [.int (mF2 Z f k)]) (wc := oX8 T q Z g) (d := 0) (v := bI (mNear Z ((k / 3) % 3) (k % 3))) cx (c_X8_isNear l G T A q Z g ((k / 3) % 3) (k % 3) (by omega) (by omega)) (cwV 2 hts gX8_floorsFrom_X8_isNear rfl rfl rfl (by decide +kernel) ⟨Nat.le_of_ble_eq_true rfl, Nat.le_of_ble_eq_true rfl⟩) hP hK hE (va_recv hK hP (ci := 8) (q0 := 0) rfl rfl) rfl hl.1 rfl (Nat.le_of_ble_eq_true rfl) dX8_floorsFrom_84 ⟨Nat.le_of_ble_eq_true rfl, Nat.le_of_ble_eq_true rfl⟩ ?_
                  refine b_if_eq (b := mNear Z ((k / 3) % 3) (k % 3)) (tgt := 98) hx hb dX8_floorsFrom_87 (by decide) (fun c_11 => ?_) (fun c_12 => ?_)
                  · skip
                    refine n_iconst hx hb 0 dX8_floorsFrom_98 (by decide) ?_
                    exact J_7 _ (by simp [c_1, c_5, c_10, c_11])
                  · skip
                    refine n_iconst hx hb 1 dX8_floorsFrom_90 (by decide) ?_
                    refine lv_iload_n hx hb dX8_floorsFrom_91 rfl (lv_at hl 2 rfl) ?_
                    refine n_iconst hx hb 3 dX8_floorsFrom_92 (by decide) ?_
                    refine n_irem (a := k) (b := 3) hx hb (by omega) (by decide) (by decide) dX8_floorsFrom_93 ?_
                    refine x_ishl hx hb dX8_floorsFrom_94 ?_
                    refine lv_goto (tgt := 99) hx hb dX8_floorsFrom_95 (by decide) ?_
                    exact J_7 _ (by simp [c_1, c_5, c_10, c_12])
              refine lv_if_eq (tgt := 69) hx hb dX8_floorsFrom_62 (by decide) (fun c_13 => ?_) (fun c_14 => ?_)
              · skip
                refine n_iconst hx hb 0 dX8_floorsFrom_69 (by decide) ?_
                exact J_6 _ (by simp [mPs, bI, c_1, c_5, c_13])
              · skip
                refine n_iconst hx hb 1 dX8_floorsFrom_65 (by decide) ?_
                refine lv_goto (tgt := 70) hx hb dX8_floorsFrom_66 (by decide) ?_
                exact J_6 _ (by simp [mPs, bI, c_1, c_5, c_14])
        exact L36_i_3 (27 + 1) 0 (by omega) (by omega) _ _ rfl (by obtain rfl : k = 3 := (by omega); rfl) _ (lv_sub hl [0, 1, 2, 3] rfl)
      · skip
        refine lv_iload_n hx hb dX8_floorsFrom_9 rfl (lv_at hl 1 rfl) ?_
        refine lv_aload_n hx hb dX8_floorsFrom_10 rfl (lv_at hl 2 rfl) ?_
        refine lv_iload_n hx hb dX8_floorsFrom_11 rfl (lv_at hl 0 rfl) ?_
        refine lv_iload_n hx hb dX8_floorsFrom_12 rfl (lv_at hl 3 rfl) ?_
        refine k_roV (As := [.int (nI k), .int (nI f)]) (rest := [.int (mF1 Z f k)]) (wc := oX8 T q Z g) (d := 0) (v := bI (mNear Z k f)) cx (c_X8_isNear l G T A q Z g k f (by omega) (by omega)) (cwV 2 hts gX8_floorsFrom_X8_isNear rfl rfl rfl (by decide +kernel) ⟨Nat.le_of_ble_eq_true rfl, Nat.le_of_ble_eq_true rfl⟩) hP hK hE (va_recv hK hP (ci := 8) (q0 := 0) rfl rfl) rfl hl.1 rfl (Nat.le_of_ble_eq_true rfl) dX8_floorsFrom_13 ⟨Nat.le_of_ble_eq_true rfl, Nat.le_of_ble_eq_true rfl⟩ ?_
        have J_15 : ∀ y9 : Int32, y9 = (if mNear Z k f then iShl (nI 1) (nI k) else nI 0) → W p l e (headSpec wsX8_floorsFrom (rmD 1 0 0)).room s m args below meth c s.heap [] 0 0 Q0 (F0 m 26 ls (.int y9 :: .int (mF1 Z f k) :: [])) := by
          intro y9 hy9
          subst hy9
          refine lv_ior hx hb dX8_floorsFrom_26 ?_
          refine lv_istore_n (lv' := [(2, .int ((mF1 Z f k) ||| (if mNear Z k f then iShl (nI 1) (nI k) else nI 0))), (3, .int (nI k)), (0, .ref (q 0)), (1, .int (nI f))]) hx hb dX8_floorsFrom_27 rfl hl (by decide) rfl (fun ls hl => ?_)
          refine lv_iinc (v := nI (k + 1)) (lv' := [(3, .int (nI (k + 1))), (2, .int ((mF1 Z f k) ||| (if mNear Z k f then iShl (nI 1) (nI k) else nI 0))), (0, .ref (q 0)), (1, .int (nI f))]) hx hb dX8_floorsFrom_28 hl (k := 1) rfl (n_inc k 1 rfl) (by decide) rfl (fun ls hl => ?_)
          refine lv_goto (tgt := 4) hx hb dX8_floorsFrom_31 (by decide) ?_
          have e_16 : ((mF1 Z f k) ||| (if mNear Z k f then iShl (nI 1) (nI k) else nI 0)) = mF1 Z f (k + 1) := rfl
          exact ih4 (k + 1) (by omega) (by omega) _ _ rfl e_16 _ (lv_sub hl [0, 1, 2, 3] rfl)
        refine b_if_eq (b := mNear Z k f) (tgt := 25) hx hb dX8_floorsFrom_16 (by decide) (fun c_17 => ?_) (fun c_18 => ?_)
        · skip
          refine n_iconst hx hb 0 dX8_floorsFrom_25 (by decide) ?_
          exact J_15 _ (by simp [c_17])
        · skip
          refine n_iconst hx hb 1 dX8_floorsFrom_19 (by decide) ?_
          refine lv_iload_n hx hb dX8_floorsFrom_20 rfl (lv_at hl 0 rfl) ?_
          refine x_ishl hx hb dX8_floorsFrom_21 ?_
          refine lv_goto (tgt := 26) hx hb dX8_floorsFrom_22 (by decide) ?_
          exact J_15 _ (by simp [c_18])
  exact L4 (3 + 1) 0 (by omega) (by omega) _ _ rfl rfl _ (lv_sub hl [0, 1, 2, 3] rfl)
set_option maxHeartbeats 4000000 in
set_option maxRecDepth 100000 in
theorem c_X8_hearers (l : Launch) (G : va_G) (T : Nat → ClassId) (A : Nat → Prop) (q : Nat → Nat) (Z : Nat → Nat → Int32) (g : Int64) (r : Nat) (hr6 : r < 6) : RO l yX8_hearers wsX8_hearers 2 G T A (oX8 T q Z g) [.ref (q 0), .int (nI r)] (mHe Z r 6) := by
  refine Met.ofW (cc := cX8_hearers) (maxL := 5) (ret := (some .int)) (by decide) rfl ?_
  intro p e s m args below meth c s₁ B hml hv
  obtain ⟨ha, hP, hK, hE⟩ := hv
  have hx := B.exec
  have hb := B.bytes
  have hr := B.returns
  have hlocks := B.notSynchronized
  have hts := atoms_spec (ws := wsX8_hearers) B.pre
  have hown : s.vm.findClass RX8 = some m.cls := findClass_of_methodNamed B.named
  have cx : CallFix p m c cX8_hearers 5 s args wsX8_hearers RX8 := ⟨hx, hb, hml, hown, hts⟩
  refine w_entry ha (Nat.le_of_ble_eq_true rfl) (fun ls hl => ?_)
  refine w_q (fun Q0 hQ => ?_)
  have hl : lv_has ls 5 [(0, .ref (q 0)), (1, .int (nI r))] := hl
  have hP : va_P G vwCl [(q 0, .inr (8, [.int (Z 0 0), .ref (q 2), .ref (q 3), .int (Z 0 3), .ref (q 5), .int (Z 0 5), .ref (q 7), .int (Z 0 7), .int (Z 0 8), .int (Z 0 9), .int (Z 0 10), .int (Z 0 11), .ref (q 13), .int (Z 0 13), .ref (q 15), .long g])), (q 2, .inl (T 0, 267, .inl (Z 2))), (q 3, .inl (T 0, 1602, .inl (Z 3))), (q 5, .inl (T 0, 267, .inl (Z 5))), (q 7, .inl (T 0, 60, .inl (Z 7))), (q 13, .inl (T 0, 8, .inl (Z 13))), (q 15, .inl (T 0, 3, .inl (Z 15)))] s.heap := hP
  refine lv_aload_n hx hb dX8_hearers_0 rfl (lv_at hl 0 rfl) ?_
  refine lv_iload_n hx hb dX8_hearers_1 rfl (lv_at hl 1 rfl) ?_
  refine n_iconst hx hb 2 dX8_hearers_2 (by decide) ?_
  refine n_idiv (a := r) (b := 2) hx hb (by omega) (by decide) (by decide) dX8_hearers_3 ?_
  refine k_roV (As := [.int (nI (r / 2))]) (rest := []) (wc := oX8 T q Z g) (d := 1) (v := mF2 Z (r / 2) 27) cx (c_X8_floorsFrom l G T A q Z g (r / 2) (by omega)) (cwV 1 hts gX8_hearers_X8_floorsFrom rfl rfl rfl (by decide +kernel) ⟨Nat.le_of_ble_eq_true rfl, Nat.le_of_ble_eq_true rfl⟩) hP hK hE (va_recv hK hP (ci := 8) (q0 := 0) rfl rfl) rfl hl.1 rfl (Nat.le_of_ble_eq_true rfl) dX8_hearers_4 ⟨Nat.le_of_ble_eq_true rfl, Nat.le_of_ble_eq_true rfl⟩ ?_
  refine lv_istore_n (lv' := [(2, .int (mF2 Z (r / 2) 27)), (0, .ref (q 0)), (1, .int (nI r))]) hx hb dX8_hearers_7 rfl hl (by decide) rfl (fun ls hl => ?_)
  refine n_iconst hx hb 0 dX8_hearers_8 (by decide) ?_
  refine lv_istore_n (lv' := [(3, .int (nI 0)), (2, .int (mF2 Z (r / 2) 27)), (0, .ref (q 0)), (1, .int (nI r))]) hx hb dX8_hearers_9 rfl hl (by decide) rfl (fun ls hl => ?_)
  refine n_iconst hx hb 0 dX8_hearers_10 (by decide) ?_
  refine lv_istore (lv' := [(4, .int (nI 0)), (3, .int (nI 0)), (2, .int (mF2 Z (r / 2) 27)), (0, .ref (q 0)), (1, .int (nI r))]) hx hb dX8_hearers_11 hl (by decide) rfl (fun ls hl => ?_)
  have L13 : ∀ (n9 k : Nat) (hk1 : k ≤ 6) (hk2 : 6 - k < n9) (x4 : Int32) (x3 : Int32) (hx4 : x4 = nI k) (hx3 : x3 = mHe Z r k) (ls : Array Slot) (hl : lv_has ls 5 [(4, .int x4), (3, .int x3), (2, .int (mF2 Z (r / 2) 27)), (0, .ref (q 0)), (1, .int (nI r))]), W p l e (headSpec wsX8_hearers (rmD 2 0 0)).room s m args below meth c s.heap [] 0 0 Q0 (F0 m 13 ls []) := by
    intro n9
    induction n9 with
    | zero => intros; omega
    | succ n9 ih13 =>
      intro k hk1 hk2 x4 x3 hx4 hx3 ls hl
      subst hx4 hx3
      refine lv_iload hx hb dX8_hearers_13 (lv_at hl 0 rfl) ?_
      refine lv_bipush (v := nI 6) hx hb dX8_hearers_15 (by decide) ?_
      refine n_icmp_ge (a := k) (b := 6) (tgt := 55) hx hb (by omega) (by decide) dX8_hearers_17 (by decide) (fun c_1 => ?_) (fun c_2 => ?_)
      · skip
        refine lv_iload_n hx hb dX8_hearers_55 rfl (lv_at hl 1 rfl) ?_
        subst hQ
        exact e_ro hx hb hr hlocks (by obtain rfl : k = 6 := (by omega); rfl) dX8_hearers_56
      · skip
        refine lv_iload_n hx hb dX8_hearers_20 rfl (lv_at hl 1 rfl) ?_
        refine lv_iload hx hb dX8_hearers_21 (lv_at hl 0 rfl) ?_
        refine lv_iload_n hx hb dX8_hearers_23 rfl (lv_at hl 4 rfl) ?_
        have J_3 : ∀ y9 : Int32, y9 = (if !decide (k = r) && decide (iShr (mF2 Z (r / 2) 27) (nI (k / 2)) &&& nI 1 = nI 1) then iShl (nI 1) (nI k) else nI 0) → W p l e (headSpec wsX8_hearers (rmD 2 0 0)).room s m args below meth c s.heap [] 0 0 Q0 (F0 m 47 ls (.int y9 :: .int (mHe Z r k) :: [])) := by
          intro y9 hy9
          subst hy9
          refine lv_ior hx hb dX8_hearers_47 ?_
          refine lv_istore_n (lv' := [(3, .int ((mHe Z r k) ||| (if !decide (k = r) && decide (iShr (mF2 Z (r / 2) 27) (nI (k / 2)) &&& nI 1 = nI 1) then iShl (nI 1) (nI k) else nI 0))), (4, .int (nI k)), (2, .int (mF2 Z (r / 2) 27)), (0, .ref (q 0)), (1, .int (nI r))]) hx hb dX8_hearers_48 rfl hl (by decide) rfl (fun ls hl => ?_)
          refine lv_iinc (v := nI (k + 1)) (lv' := [(4, .int (nI (k + 1))), (3, .int ((mHe Z r k) ||| (if !decide (k = r) && decide (iShr (mF2 Z (r / 2) 27) (nI (k / 2)) &&& nI 1 = nI 1) then iShl (nI 1) (nI k) else nI 0))), (2, .int (mF2 Z (r / 2) 27)), (0, .ref (q 0)), (1, .int (nI r))]) hx hb dX8_hearers_49 hl (k := 1) rfl (n_inc k 1 rfl) (by decide) rfl (fun ls hl => ?_)
          refine lv_goto (tgt := 13) hx hb dX8_hearers_52 (by decide) ?_
          have e_4 : ((mHe Z r k) ||| (if !decide (k = r) && decide (iShr (mF2 Z (r / 2) 27) (nI (k / 2)) &&& nI 1 = nI 1) then iShl (nI 1) (nI k) else nI 0)) = mHe Z r (k + 1) := rfl
          exact ih13 (k + 1) (by omega) (by omega) _ _ rfl e_4 _ (lv_sub hl [0, 1, 2, 3, 4] rfl)
        refine n_icmp_eq (a := k) (b := r) (tgt := 46) hx hb (by omega) (by omega) dX8_hearers_24 (by decide) (fun c_5 => ?_) (fun c_6 => ?_)
        · skip
          refine n_iconst hx hb 0 dX8_hearers_46 (by decide) ?_
          exact J_3 _ (by simp [c_2, c_5])
        · skip
          refine lv_iload_n hx hb dX8_hearers_27 rfl (lv_at hl 2 rfl) ?_
          refine lv_iload hx hb dX8_hearers_28 (lv_at hl 0 rfl) ?_
          refine n_iconst hx hb 2 dX8_hearers_30 (by decide) ?_
          refine n_idiv (a := k) (b := 2) hx hb (by omega) (by decide) (by decide) dX8_hearers_31 ?_
          refine x_ishr hx hb dX8_hearers_32 ?_
          refine n_iconst hx hb 1 dX8_hearers_33 (by decide) ?_
          refine lv_iand hx hb dX8_hearers_34 ?_
          refine n_iconst hx hb 1 dX8_hearers_35 (by decide) ?_
          refine lv_icmp_ne (tgt := 46) hx hb dX8_hearers_36 (by decide) (fun c_7 => ?_) (fun c_8 => ?_)
          · skip
            refine n_iconst hx hb 0 dX8_hearers_46 (by decide) ?_
            exact J_3 _ (by simp [c_2, c_6, c_7])
          · skip
            refine n_iconst hx hb 1 dX8_hearers_39 (by decide) ?_
            refine lv_iload hx hb dX8_hearers_40 (lv_at hl 0 rfl) ?_
            refine x_ishl hx hb dX8_hearers_42 ?_
            refine lv_goto (tgt := 47) hx hb dX8_hearers_43 (by decide) ?_
            exact J_3 _ (by simp [c_2, c_6, c_8])
  exact L13 (6 + 1) 0 (by omega) (by omega) _ _ rfl rfl _ (lv_sub hl [0, 1, 2, 3, 4] rfl)
set_option maxHeartbeats 4000000 in
set_option maxRecDepth 100000 in
theorem c_X8_knowers (l : Launch) (G : va_G) (T : Nat → ClassId) (A : Nat → Prop) (q : Nat → Nat) (Z : Nat → Nat → Int32) (g : Int64) (r : Nat) (hr6 : r < 6) : RO l yX8_knowers wsX8_knowers 3 G T A (oX8 T q Z g) [.ref (q 0), .int (nI r)] (mKn Z r 6) := by
  refine Met.ofW (cc := cX8_knowers) (maxL := 4) (ret := (some .int)) (by decide) rfl ?_
  intro p e s m args below meth c s₁ B hml hv
  obtain ⟨ha, hP, hK, hE⟩ := hv
  have hx := B.exec
  have hb := B.bytes
  have hr := B.returns
  have hlocks := B.notSynchronized
  have hts := atoms_spec (ws := wsX8_knowers) B.pre
  have hown : s.vm.findClass RX8 = some m.cls := findClass_of_methodNamed B.named
  have cx : CallFix p m c cX8_knowers 4 s args wsX8_knowers RX8 := ⟨hx, hb, hml, hown, hts⟩
  refine w_entry ha (Nat.le_of_ble_eq_true rfl) (fun ls hl => ?_)
  refine w_q (fun Q0 hQ => ?_)
  have hl : lv_has ls 4 [(0, .ref (q 0)), (1, .int (nI r))] := hl
  have hP : va_P G vwCl [(q 0, .inr (8, [.int (Z 0 0), .ref (q 2), .ref (q 3), .int (Z 0 3), .ref (q 5), .int (Z 0 5), .ref (q 7), .int (Z 0 7), .int (Z 0 8), .int (Z 0 9), .int (Z 0 10), .int (Z 0 11), .ref (q 13), .int (Z 0 13), .ref (q 15), .long g])), (q 2, .inl (T 0, 267, .inl (Z 2))), (q 3, .inl (T 0, 1602, .inl (Z 3))), (q 5, .inl (T 0, 267, .inl (Z 5))), (q 7, .inl (T 0, 60, .inl (Z 7))), (q 13, .inl (T 0, 8, .inl (Z 13))), (q 15, .inl (T 0, 3, .inl (Z 15)))] s.heap := hP
  refine lv_aload_n hx hb dX8_knowers_0 rfl (lv_at hl 0 rfl) ?_
  refine lv_iload_n hx hb dX8_knowers_1 rfl (lv_at hl 1 rfl) ?_
  refine k_roV (As := [.int (nI r)]) (rest := []) (wc := oX8 T q Z g) (d := 2) (v := mHe Z r 6) cx (c_X8_hearers l G T A q Z g r (by omega)) (cwV 1 hts gX8_knowers_X8_hearers rfl rfl rfl (by decide +kernel) ⟨Nat.le_of_ble_eq_true rfl, Nat.le_of_ble_eq_true rfl⟩) hP hK hE (va_recv hK hP (ci := 8) (q0 := 0) rfl rfl) rfl hl.1 rfl (Nat.le_of_ble_eq_true rfl) dX8_knowers_2 ⟨Nat.le_of_ble_eq_true rfl, Nat.le_of_ble_eq_true rfl⟩ ?_
  refine lv_istore_n (lv' := [(2, .int (mHe Z r 6)), (0, .ref (q 0)), (1, .int (nI r))]) hx hb dX8_knowers_5 rfl hl (by decide) rfl (fun ls hl => ?_)
  refine n_iconst hx hb 0 dX8_knowers_6 (by decide) ?_
  refine lv_istore_n (lv' := [(3, .int (nI 0)), (2, .int (mHe Z r 6)), (0, .ref (q 0)), (1, .int (nI r))]) hx hb dX8_knowers_7 rfl hl (by decide) rfl (fun ls hl => ?_)
  have L8 : ∀ (n9 k : Nat) (hk1 : k ≤ 6) (hk2 : 6 - k < n9) (x3 : Int32) (x2 : Int32) (hx3 : x3 = nI k) (hx2 : x2 = mKn Z r k) (ls : Array Slot) (hl : lv_has ls 4 [(3, .int x3), (2, .int x2), (0, .ref (q 0)), (1, .int (nI r))]), W p l e (headSpec wsX8_knowers (rmD 3 0 0)).room s m args below meth c s.heap [] 0 0 Q0 (F0 m 8 ls []) := by
    intro n9
    induction n9 with
    | zero => intros; omega
    | succ n9 ih8 =>
      intro k hk1 hk2 x3 x2 hx3 hx2 ls hl
      subst hx3 hx2
      refine lv_iload_n hx hb dX8_knowers_8 rfl (lv_at hl 0 rfl) ?_
      refine lv_bipush (v := nI 6) hx hb dX8_knowers_9 (by decide) ?_
      refine n_icmp_ge (a := k) (b := 6) (tgt := 47) hx hb (by omega) (by decide) dX8_knowers_11 (by decide) (fun c_1 => ?_) (fun c_2 => ?_)
      · skip
        refine lv_iload_n hx hb dX8_knowers_47 rfl (lv_at hl 1 rfl) ?_
        subst hQ
        exact e_ro hx hb hr hlocks (by obtain rfl : k = 6 := (by omega); rfl) dX8_knowers_48
      · skip
        refine lv_iload_n hx hb dX8_knowers_14 rfl (lv_at hl 1 rfl) ?_
        refine lv_aload_n hx hb dX8_knowers_15 rfl (lv_at hl 2 rfl) ?_
        refine lv_iload_n hx hb dX8_knowers_16 rfl (lv_at hl 0 rfl) ?_
        refine n_iconst hx hb 0 dX8_knowers_17 (by decide) ?_
        refine k_roV (As := [.int (nI k), .int (nI 0)]) (rest := [.int (mKn Z r k)]) (wc := oX8 T q Z g) (d := 0) (v := (Z 2) (14 + 5 * k)) cx (c_X8_ofRoom l G T A q Z g k 0 (by omega) (by omega)) (cwV 2 hts gX8_knowers_X8_ofRoom rfl rfl rfl (by decide +kernel) ⟨Nat.le_of_ble_eq_true rfl, Nat.le_of_ble_eq_true rfl⟩) hP hK hE (va_recv hK hP (ci := 8) (q0 := 0) rfl rfl) rfl hl.1 rfl (Nat.le_of_ble_eq_true rfl) dX8_knowers_18 ⟨Nat.le_of_ble_eq_true rfl, Nat.le_of_ble_eq_true rfl⟩ ?_
        refine lv_aload_n hx hb dX8_knowers_21 rfl (lv_at hl 2 rfl) ?_
        refine lv_iload_n hx hb dX8_knowers_22 rfl (lv_at hl 3 rfl) ?_
        refine n_iconst hx hb 0 dX8_knowers_23 (by decide) ?_
        refine k_roV (As := [.int (nI r), .int (nI 0)]) (rest := [.int ((Z 2) (14 + 5 * k)), .int (mKn Z r k)]) (wc := oX8 T q Z g) (d := 0) (v := (Z 2) (14 + 5 * r)) cx (c_X8_ofRoom l G T A q Z g r 0 (by omega) (by omega)) (cwV 2 hts gX8_knowers_X8_ofRoom rfl rfl rfl (by decide +kernel) ⟨Nat.le_of_ble_eq_true rfl, Nat.le_of_ble_eq_true rfl⟩) hP hK hE (va_recv hK hP (ci := 8) (q0 := 0) rfl rfl) rfl hl.1 rfl (Nat.le_of_ble_eq_true rfl) dX8_knowers_24 ⟨Nat.le_of_ble_eq_true rfl, Nat.le_of_ble_eq_true rfl⟩ ?_
        have J_3 : ∀ y9 : Int32, y9 = (if Z 2 (14 + 5 * k) = Z 2 (14 + 5 * r) then mKn Z r k else iShl (nI 1) (nI k) ^^^ -1) → W p l e (headSpec wsX8_knowers (rmD 3 0 0)).room s m args below meth c s.heap [] 0 0 Q0 (F0 m 39 ls (.int y9 :: .int (mKn Z r k) :: [])) := by
          intro y9 hy9
          subst hy9
          refine lv_iand hx hb dX8_knowers_39 ?_
          refine lv_istore_n (lv' := [(2, .int ((mKn Z r k) &&& (if Z 2 (14 + 5 * k) = Z 2 (14 + 5 * r) then mKn Z r k else iShl (nI 1) (nI k) ^^^ -1))), (3, .int (nI k)), (0, .ref (q 0)), (1, .int (nI r))]) hx hb dX8_knowers_40 rfl hl (by decide) rfl (fun ls hl => ?_)
          refine lv_iinc (v := nI (k + 1)) (lv' := [(3, .int (nI (k + 1))), (2, .int ((mKn Z r k) &&& (if Z 2 (14 + 5 * k) = Z 2 (14 + 5 * r) then mKn Z r k else iShl (nI 1) (nI k) ^^^ -1))), (0, .ref (q 0)), (1, .int (nI r))]) hx hb dX8_knowers_41 hl (k := 1) rfl (n_inc k 1 rfl) (by decide) rfl (fun ls hl => ?_)
          refine lv_goto (tgt := 8) hx hb dX8_knowers_44 (by decide) ?_
          have e_4 : ((mKn Z r k) &&& (if Z 2 (14 + 5 * k) = Z 2 (14 + 5 * r) then mKn Z r k else iShl (nI 1) (nI k) ^^^ -1)) = mKn Z r (k + 1) := rfl
          exact ih8 (k + 1) (by omega) (by omega) _ _ rfl e_4 _ (lv_sub hl [0, 1, 2, 3] rfl)
        refine lv_icmp_ne (tgt := 34) hx hb dX8_knowers_27 (by decide) (fun c_5 => ?_) (fun c_6 => ?_)
        · skip
          refine n_iconst hx hb 1 dX8_knowers_34 (by decide) ?_
          refine lv_iload_n hx hb dX8_knowers_35 rfl (lv_at hl 0 rfl) ?_
          refine x_ishl hx hb dX8_knowers_36 ?_
          refine lv_iconst (v := -1) hx hb dX8_knowers_37 (by decide) ?_
          refine lv_ixor hx hb dX8_knowers_38 ?_
          exact J_3 _ (by first | rw [if_pos c_5] | rw [if_neg c_5])
        · skip
          refine lv_iload_n hx hb dX8_knowers_30 rfl (lv_at hl 1 rfl) ?_
          refine lv_goto (tgt := 39) hx hb dX8_knowers_31 (by decide) ?_
          exact J_3 _ (by first | rw [if_pos c_6] | rw [if_neg c_6])
  exact L8 (6 + 1) 0 (by omega) (by omega) _ _ rfl rfl _ (lv_sub hl [0, 1, 2, 3] rfl)
set_option maxHeartbeats 4000000 in
set_option maxRecDepth 100000 in
theorem c_X8_catchers (l : Launch) (G : va_G) (T : Nat → ClassId) (A : Nat → Prop) (q : Nat → Nat) (Z : Nat → Nat → Int32) (g : Int64) (r : Nat) (mm : Nat) (hr6 : r < 6) (hm20 : mm < 20) : RO l yX8_catchers wsX8_catchers 2 G T A (oX8 T q Z g) [.ref (q 0), .int (nI r), .int (nI mm)] (mCa Z r mm 3) := by
  refine Met.ofW (cc := cX8_catchers) (maxL := 7) (ret := (some .int)) (by decide) rfl ?_
  intro p e s m args below meth c s₁ B hml hv
  obtain ⟨ha, hP, hK, hE⟩ := hv
  have hx := B.exec
  have hb := B.bytes
  have hr := B.returns
  have hlocks := B.notSynchronized
  have hts := atoms_spec (ws := wsX8_catchers) B.pre
  have hown : s.vm.findClass RX8 = some m.cls := findClass_of_methodNamed B.named
  have cx : CallFix p m c cX8_catchers 7 s args wsX8_catchers RX8 := ⟨hx, hb, hml, hown, hts⟩
  refine w_entry ha (Nat.le_of_ble_eq_true rfl) (fun ls hl => ?_)
  refine w_q (fun Q0 hQ => ?_)
  have lk7 := hts (.fieldLink RX8 7 "WhistleTunesModel" "state" "[I") (by decide +kernel)
  have hinX8 : ∀ w ∈ wsX80, w ∈ wsX8_catchers := by decide +kernel
  have hl : lv_has ls 7 [(0, .ref (q 0)), (1, .int (nI r)), (2, .int (nI mm))] := hl
  have hP : va_P G vwCl [(q 0, .inr (8, [.int (Z 0 0), .ref (q 2), .ref (q 3), .int (Z 0 3), .ref (q 5), .int (Z 0 5), .ref (q 7), .int (Z 0 7), .int (Z 0 8), .int (Z 0 9), .int (Z 0 10), .int (Z 0 11), .ref (q 13), .int (Z 0 13), .ref (q 15), .long g])), (q 2, .inl (T 0, 267, .inl (Z 2))), (q 3, .inl (T 0, 1602, .inl (Z 3))), (q 5, .inl (T 0, 267, .inl (Z 5))), (q 7, .inl (T 0, 60, .inl (Z 7))), (q 13, .inl (T 0, 8, .inl (Z 13))), (q 15, .inl (T 0, 3, .inl (Z 15)))] s.heap := hP
  refine lv_aload_n hx hb dX8_catchers_0 rfl (lv_at hl 0 rfl) ?_
  refine lv_iload_n hx hb dX8_catchers_1 rfl (lv_at hl 1 rfl) ?_
  refine n_iconst hx hb 2 dX8_catchers_2 (by decide) ?_
  refine n_idiv (a := r) (b := 2) hx hb (by omega) (by decide) (by decide) dX8_catchers_3 ?_
  refine k_roV (As := [.int (nI (r / 2))]) (rest := []) (wc := oX8 T q Z g) (d := 1) (v := mF2 Z (r / 2) 27) cx (c_X8_floorsFrom l G T A q Z g (r / 2) (by omega)) (cwV 1 hts gX8_catchers_X8_floorsFrom rfl rfl rfl (by decide +kernel) ⟨Nat.le_of_ble_eq_true rfl, Nat.le_of_ble_eq_true rfl⟩) hP hK hE (va_recv hK hP (ci := 8) (q0 := 0) rfl rfl) rfl hl.1 rfl (Nat.le_of_ble_eq_true rfl) dX8_catchers_4 ⟨Nat.le_of_ble_eq_true rfl, Nat.le_of_ble_eq_true rfl⟩ ?_
  refine lv_istore_n (lv' := [(3, .int (mF2 Z (r / 2) 27)), (0, .ref (q 0)), (1, .int (nI r)), (2, .int (nI mm))]) hx hb dX8_catchers_7 rfl hl (by decide) rfl (fun ls hl => ?_)
  refine n_iconst hx hb 0 dX8_catchers_8 (by decide) ?_
  refine lv_istore (lv' := [(4, .int (nI 0)), (3, .int (mF2 Z (r / 2) 27)), (0, .ref (q 0)), (1, .int (nI r)), (2, .int (nI mm))]) hx hb dX8_catchers_9 hl (by decide) rfl (fun ls hl => ?_)
  refine n_iconst hx hb 0 dX8_catchers_11 (by decide) ?_
  refine lv_istore (lv' := [(5, .int (nI 0)), (4, .int (nI 0)), (3, .int (mF2 Z (r / 2) 27)), (0, .ref (q 0)), (1, .int (nI r)), (2, .int (nI mm))]) hx hb dX8_catchers_12 hl (by decide) rfl (fun ls hl => ?_)
  have L14 : ∀ (n9 k : Nat) (hk1 : k ≤ 3) (hk2 : 3 - k < n9) (x5 : Int32) (x4 : Int32) (hx5 : x5 = nI k) (hx4 : x4 = mCa Z r mm k) (ls : Array Slot) (hl : lv_has ls 7 [(5, .int x5), (4, .int x4), (3, .int (mF2 Z (r / 2) 27)), (0, .ref (q 0)), (1, .int (nI r)), (2, .int (nI mm))]), W p l e (headSpec wsX8_catchers (rmD 2 0 0)).room s m args below meth c s.heap [] 0 0 Q0 (F0 m 14 ls []) := by
    intro n9
    induction n9 with
    | zero => intros; omega
    | succ n9 ih14 =>
      intro k hk1 hk2 x5 x4 hx5 hx4 ls hl
      subst hx5 hx4
      refine lv_iload hx hb dX8_catchers_14 (lv_at hl 0 rfl) ?_
      refine n_iconst hx hb 3 dX8_catchers_16 (by decide) ?_
      refine n_icmp_ge (a := k) (b := 3) (tgt := 88) hx hb (by omega) (by decide) dX8_catchers_17 (by decide) (fun c_1 => ?_) (fun c_2 => ?_)
      · skip
        refine lv_iload hx hb dX8_catchers_88 (lv_at hl 1 rfl) ?_
        subst hQ
        exact e_ro hx hb hr hlocks (by obtain rfl : k = 3 := (by omega); rfl) dX8_catchers_90
      · skip
        refine lv_iload_n hx hb dX8_catchers_20 rfl (lv_at hl 2 rfl) ?_
        refine lv_iload hx hb dX8_catchers_21 (lv_at hl 0 rfl) ?_
        refine lv_aload_n hx hb dX8_catchers_23 rfl (lv_at hl 3 rfl) ?_
        refine va_get (D := G) (ci := 8) (v := .ref (q 2)) (C := RX8) (T := TX8) (N := 16) hx hb hts hinX8 hown hK hP 0 rfl rfl 1 (by decide) lk7 (fun _ h9 => h9) rfl dX8_catchers_24 ?_
        refine n_iconst hx hb 0 dX8_catchers_27 (by decide) ?_
        refine n_iald hx hb hK hP 1 0 rfl rfl 0 (by decide) (by decide) dX8_catchers_28 ?_
        refine lv_iadd hx hb dX8_catchers_29 ?_
        refine n_iconst hx hb 3 dX8_catchers_30 (by decide) ?_
        refine x_irem hx hb (nI_ne0 (by decide) (by decide)) dX8_catchers_31 ?_
        refine x_ishr hx hb dX8_catchers_32 ?_
        refine n_iconst hx hb 1 dX8_catchers_33 (by decide) ?_
        refine lv_iand hx hb dX8_catchers_34 ?_
        refine n_iconst hx hb 1 dX8_catchers_35 (by decide) ?_
        have J_3 : ∀ y9 : Int32, y9 = (bI (mCaB Z r mm k)) → W p l e (headSpec wsX8_catchers (rmD 2 0 0)).room s m args below meth c s.heap [] 0 0 Q0 (F0 m 62 ls (.int y9 :: [])) := by
          intro y9 hy9
          subst hy9
          refine lv_istore (lv' := [(6, .int (bI (mCaB Z r mm k))), (5, .int (nI k)), (4, .int (mCa Z r mm k)), (3, .int (mF2 Z (r / 2) 27)), (0, .ref (q 0)), (1, .int (nI r)), (2, .int (nI mm))]) hx hb dX8_catchers_62 hl (by decide) rfl (fun ls hl => ?_)
          refine lv_iload hx hb dX8_catchers_64 (lv_at hl 2 rfl) ?_
          refine lv_iload hx hb dX8_catchers_66 (lv_at hl 0 rfl) ?_
          have J_4 : ∀ y9 : Int32, y9 = (if mCaB Z r mm k then iShl (nI 1) (nI k) else nI 0) → W p l e (headSpec wsX8_catchers (rmD 2 0 0)).room s m args below meth c s.heap [] 0 0 Q0 (F0 m 79 ls (.int y9 :: .int (mCa Z r mm k) :: [])) := by
            intro y9 hy9
            subst hy9
            refine lv_ior hx hb dX8_catchers_79 ?_
            refine lv_istore (lv' := [(4, .int ((mCa Z r mm k) ||| (if mCaB Z r mm k then iShl (nI 1) (nI k) else nI 0))), (6, .int (bI (mCaB Z r mm k))), (5, .int (nI k)), (3, .int (mF2 Z (r / 2) 27)), (0, .ref (q 0)), (1, .int (nI r)), (2, .int (nI mm))]) hx hb dX8_catchers_80 hl (by decide) rfl (fun ls hl => ?_)
            refine lv_iinc (v := nI (k + 1)) (lv' := [(5, .int (nI (k + 1))), (4, .int ((mCa Z r mm k) ||| (if mCaB Z r mm k then iShl (nI 1) (nI k) else nI 0))), (6, .int (bI (mCaB Z r mm k))), (3, .int (mF2 Z (r / 2) 27)), (0, .ref (q 0)), (1, .int (nI r)), (2, .int (nI mm))]) hx hb dX8_catchers_82 hl (k := 2) rfl (n_inc k 1 rfl) (by decide) rfl (fun ls hl => ?_)
            refine lv_goto (tgt := 14) hx hb dX8_catchers_85 (by decide) ?_
            have e_5 : ((mCa Z r mm k) ||| (if mCaB Z r mm k then iShl (nI 1) (nI k) else nI 0)) = mCa Z r mm (k + 1) := rfl
            exact ih14 (k + 1) (by omega) (by omega) _ _ rfl e_5 _ (lv_sub hl [0, 1, 3, 4, 5, 6] rfl)
          refine b_if_eq (b := mCaB Z r mm k) (tgt := 78) hx hb dX8_catchers_68 (by decide) (fun c_6 => ?_) (fun c_7 => ?_)
          · skip
            refine n_iconst hx hb 0 dX8_catchers_78 (by decide) ?_
            exact J_4 _ (by simp [c_6])
          · skip
            refine n_iconst hx hb 1 dX8_catchers_71 (by decide) ?_
            refine lv_iload hx hb dX8_catchers_72 (lv_at hl 1 rfl) ?_
            refine x_ishl hx hb dX8_catchers_74 ?_
            refine lv_goto (tgt := 79) hx hb dX8_catchers_75 (by decide) ?_
            exact J_4 _ (by simp [c_7])
        refine lv_icmp_ne (tgt := 61) hx hb dX8_catchers_36 (by decide) (fun c_8 => ?_) (fun c_9 => ?_)
        · skip
          refine n_iconst hx hb 0 dX8_catchers_61 (by decide) ?_
          exact J_3 _ (by simp [mCaB, bI, c_2, c_8])
        · skip
          refine lv_aload_n hx hb dX8_catchers_39 rfl (lv_at hl 3 rfl) ?_
          refine va_get (D := G) (ci := 8) (v := .ref (q 2)) (C := RX8) (T := TX8) (N := 16) hx hb hts hinX8 hown hK hP 0 rfl rfl 1 (by decide) lk7 (fun _ h9 => h9) rfl dX8_catchers_40 ?_
          refine lv_bipush (v := nI 44) hx hb dX8_catchers_43 (by decide) ?_
          refine lv_iload hx hb dX8_catchers_45 (lv_at hl 0 rfl) ?_
          refine n_iadd (a := 44) (b := k) hx hb dX8_catchers_47 ?_
          refine n_iald hx hb hK hP 1 0 rfl rfl (44 + k) (by omega) (by decide) dX8_catchers_48 ?_
          refine lv_iload_n hx hb dX8_catchers_49 rfl (lv_at hl 5 rfl) ?_
          refine x_ishr hx hb dX8_catchers_50 ?_
          refine n_iconst hx hb 1 dX8_catchers_51 (by decide) ?_
          refine lv_iand hx hb dX8_catchers_52 ?_
          refine n_iconst hx hb 1 dX8_catchers_53 (by decide) ?_
          refine lv_icmp_ne (tgt := 61) hx hb dX8_catchers_54 (by decide) (fun c_10 => ?_) (fun c_11 => ?_)
          · skip
            refine n_iconst hx hb 0 dX8_catchers_61 (by decide) ?_
            exact J_3 _ (by simp [mCaB, bI, c_2, c_9, c_10])
          · skip
            refine n_iconst hx hb 1 dX8_catchers_57 (by decide) ?_
            refine lv_goto (tgt := 62) hx hb dX8_catchers_58 (by decide) ?_
            exact J_3 _ (by simp [mCaB, bI, c_2, c_9, c_11])
  exact L14 (3 + 1) 0 (by omega) (by omega) _ _ rfl rfl _ (lv_sub hl [0, 1, 2, 3, 4, 5] rfl)
set_option maxHeartbeats 4000000 in
set_option maxRecDepth 100000 in
theorem c_X8_raisedBy (l : Launch) (G : va_G) (T : Nat → ClassId) (A : Nat → Prop) (q : Nat → Nat) (Z : Nat → Nat → Int32) (g : Int64) (r : Nat) (mm : Nat) (hr6 : r < 6) (hm20 : mm < 20) : RO l yX8_raisedBy wsX8_raisedBy 4 G T A (oX8 T q Z g) [.ref (q 0), .int (nI r), .int (nI mm)] (mRa Z r mm) := by
  refine Met.ofW (cc := cX8_raisedBy) (maxL := 3) (ret := (some .int)) (by decide) rfl ?_
  intro p e s m args below meth c s₁ B hml hv
  obtain ⟨ha, hP, hK, hE⟩ := hv
  have hx := B.exec
  have hb := B.bytes
  have hr := B.returns
  have hlocks := B.notSynchronized
  have hts := atoms_spec (ws := wsX8_raisedBy) B.pre
  have hown : s.vm.findClass RX8 = some m.cls := findClass_of_methodNamed B.named
  have cx : CallFix p m c cX8_raisedBy 3 s args wsX8_raisedBy RX8 := ⟨hx, hb, hml, hown, hts⟩
  refine w_entry ha (Nat.le_of_ble_eq_true rfl) (fun ls hl => ?_)
  refine w_q (fun Q0 hQ => ?_)
  have lk7 := hts (.fieldLink RX8 7 "WhistleTunesModel" "state" "[I") (by decide +kernel)
  have hinX8 : ∀ w ∈ wsX80, w ∈ wsX8_raisedBy := by decide +kernel
  have hl : lv_has ls 3 [(0, .ref (q 0)), (1, .int (nI r)), (2, .int (nI mm))] := hl
  have hP : va_P G vwCl [(q 0, .inr (8, [.int (Z 0 0), .ref (q 2), .ref (q 3), .int (Z 0 3), .ref (q 5), .int (Z 0 5), .ref (q 7), .int (Z 0 7), .int (Z 0 8), .int (Z 0 9), .int (Z 0 10), .int (Z 0 11), .ref (q 13), .int (Z 0 13), .ref (q 15), .long g])), (q 2, .inl (T 0, 267, .inl (Z 2))), (q 3, .inl (T 0, 1602, .inl (Z 3))), (q 5, .inl (T 0, 267, .inl (Z 5))), (q 7, .inl (T 0, 60, .inl (Z 7))), (q 13, .inl (T 0, 8, .inl (Z 13))), (q 15, .inl (T 0, 3, .inl (Z 15)))] s.heap := hP
  refine lv_iload_n hx hb dX8_raisedBy_0 rfl (lv_at hl 2 rfl) ?_
  refine lv_bipush (v := nI 12) hx hb dX8_raisedBy_1 (by decide) ?_
  refine n_icmp_lt (a := mm) (b := 12) (tgt := 29) hx hb (by omega) (by decide) dX8_raisedBy_3 (by decide) (fun c_1 => ?_) (fun c_2 => ?_)
  · skip
    refine n_iconst hx hb 0 dX8_raisedBy_29 (by decide) ?_
    subst hQ
    exact e_ro hx hb hr hlocks (by unfold mRa; first | rw [if_pos ⟨by omega, by assumption⟩] | rw [if_neg (by rintro ⟨h1, h2⟩; first | omega | contradiction)]) dX8_raisedBy_30
  · skip
    refine lv_aload_n hx hb dX8_raisedBy_6 rfl (lv_at hl 0 rfl) ?_
    refine lv_iload_n hx hb dX8_raisedBy_7 rfl (lv_at hl 1 rfl) ?_
    refine n_iconst hx hb 0 dX8_raisedBy_8 (by decide) ?_
    refine k_roV (As := [.int (nI r), .int (nI 0)]) (rest := []) (wc := oX8 T q Z g) (d := 0) (v := (Z 2) (14 + 5 * r)) cx (c_X8_ofRoom l G T A q Z g r 0 (by omega) (by omega)) (cwV 2 hts gX8_raisedBy_X8_ofRoom rfl rfl rfl (by decide +kernel) ⟨Nat.le_of_ble_eq_true rfl, Nat.le_of_ble_eq_true rfl⟩) hP hK hE (va_recv hK hP (ci := 8) (q0 := 0) rfl rfl) rfl hl.1 rfl (Nat.le_of_ble_eq_true rfl) dX8_raisedBy_9 ⟨Nat.le_of_ble_eq_true rfl, Nat.le_of_ble_eq_true rfl⟩ ?_
    refine lv_aload_n hx hb dX8_raisedBy_12 rfl (lv_at hl 0 rfl) ?_
    refine va_get (D := G) (ci := 8) (v := .ref (q 2)) (C := RX8) (T := TX8) (N := 16) hx hb hts hinX8 hown hK hP 0 rfl rfl 1 (by decide) lk7 (fun _ h9 => h9) rfl dX8_raisedBy_13 ?_
    refine n_iconst hx hb 1 dX8_raisedBy_16 (by decide) ?_
    refine n_iald hx hb hK hP 1 0 rfl rfl 1 (by decide) (by decide) dX8_raisedBy_17 ?_
    refine lv_icmp_ne (tgt := 29) hx hb dX8_raisedBy_18 (by decide) (fun c_3 => ?_) (fun c_4 => ?_)
    · skip
      refine n_iconst hx hb 0 dX8_raisedBy_29 (by decide) ?_
      subst hQ
      exact e_ro hx hb hr hlocks (by unfold mRa; first | rw [if_pos ⟨by omega, by assumption⟩] | rw [if_neg (by rintro ⟨h1, h2⟩; first | omega | contradiction)]) dX8_raisedBy_30
    · skip
      refine lv_aload_n hx hb dX8_raisedBy_21 rfl (lv_at hl 0 rfl) ?_
      refine lv_iload_n hx hb dX8_raisedBy_22 rfl (lv_at hl 1 rfl) ?_
      refine k_roV (As := [.int (nI r)]) (rest := []) (wc := oX8 T q Z g) (d := 3) (v := mKn Z r 6) cx (c_X8_knowers l G T A q Z g r (by omega)) (cwV 1 hts gX8_raisedBy_X8_knowers rfl rfl rfl (by decide +kernel) ⟨Nat.le_of_ble_eq_true rfl, Nat.le_of_ble_eq_true rfl⟩) hP hK hE (va_recv hK hP (ci := 8) (q0 := 0) rfl rfl) rfl hl.1 rfl (Nat.le_of_ble_eq_true rfl) dX8_raisedBy_23 ⟨Nat.le_of_ble_eq_true rfl, Nat.le_of_ble_eq_true rfl⟩ ?_
      refine lv_goto (tgt := 30) hx hb dX8_raisedBy_26 (by decide) ?_
      subst hQ
      exact e_ro hx hb hr hlocks (by unfold mRa; first | rw [if_pos ⟨by omega, by assumption⟩] | rw [if_neg (by rintro ⟨h1, h2⟩; first | omega | contradiction)]) dX8_raisedBy_30
set_option maxHeartbeats 4000000 in
set_option maxRecDepth 100000 in
theorem c_X8_isSilenced (l : Launch) (G : va_G) (T : Nat → ClassId) (A : Nat → Prop) (q : Nat → Nat) (Z : Nat → Nat → Int32) (g : Int64) (r : Nat) (hr6 : r < 6) : RO l yX8_isSilenced wsX8_isSilenced 1 G T A (oX8 T q Z g) [.ref (q 0), .int (nI r)] (bI (mSi Z r)) := by
  refine Met.ofW (cc := cX8_isSilenced) (maxL := 2) (ret := (some .boolean)) (by decide) rfl ?_
  intro p e s m args below meth c s₁ B hml hv
  obtain ⟨ha, hP, hK, hE⟩ := hv
  have hx := B.exec
  have hb := B.bytes
  have hr := B.returns
  have hlocks := B.notSynchronized
  have hts := atoms_spec (ws := wsX8_isSilenced) B.pre
  have hown : s.vm.findClass RX8 = some m.cls := findClass_of_methodNamed B.named
  have cx : CallFix p m c cX8_isSilenced 2 s args wsX8_isSilenced RX8 := ⟨hx, hb, hml, hown, hts⟩
  refine w_entry ha (Nat.le_of_ble_eq_true rfl) (fun ls hl => ?_)
  refine w_q (fun Q0 hQ => ?_)
  have lk7 := hts (.fieldLink RX8 7 "WhistleTunesModel" "state" "[I") (by decide +kernel)
  have hinX8 : ∀ w ∈ wsX80, w ∈ wsX8_isSilenced := by decide +kernel
  have hl : lv_has ls 2 [(0, .ref (q 0)), (1, .int (nI r))] := hl
  have hP : va_P G vwCl [(q 0, .inr (8, [.int (Z 0 0), .ref (q 2), .ref (q 3), .int (Z 0 3), .ref (q 5), .int (Z 0 5), .ref (q 7), .int (Z 0 7), .int (Z 0 8), .int (Z 0 9), .int (Z 0 10), .int (Z 0 11), .ref (q 13), .int (Z 0 13), .ref (q 15), .long g])), (q 2, .inl (T 0, 267, .inl (Z 2))), (q 3, .inl (T 0, 1602, .inl (Z 3))), (q 5, .inl (T 0, 267, .inl (Z 5))), (q 7, .inl (T 0, 60, .inl (Z 7))), (q 13, .inl (T 0, 8, .inl (Z 13))), (q 15, .inl (T 0, 3, .inl (Z 15)))] s.heap := hP
  refine lv_aload_n hx hb dX8_isSilenced_0 rfl (lv_at hl 0 rfl) ?_
  refine lv_iload_n hx hb dX8_isSilenced_1 rfl (lv_at hl 1 rfl) ?_
  refine n_iconst hx hb 1 dX8_isSilenced_2 (by decide) ?_
  refine k_roV (As := [.int (nI r), .int (nI 1)]) (rest := []) (wc := oX8 T q Z g) (d := 0) (v := (Z 2) (14 + 5 * r + 1)) cx (c_X8_ofRoom l G T A q Z g r 1 (by omega) (by omega)) (cwV 2 hts gX8_isSilenced_X8_ofRoom rfl rfl rfl (by decide +kernel) ⟨Nat.le_of_ble_eq_true rfl, Nat.le_of_ble_eq_true rfl⟩) hP hK hE (va_recv hK hP (ci := 8) (q0 := 0) rfl rfl) rfl hl.1 rfl (Nat.le_of_ble_eq_true rfl) dX8_isSilenced_3 ⟨Nat.le_of_ble_eq_true rfl, Nat.le_of_ble_eq_true rfl⟩ ?_
  refine lv_aload_n hx hb dX8_isSilenced_6 rfl (lv_at hl 0 rfl) ?_
  refine va_get (D := G) (ci := 8) (v := .ref (q 2)) (C := RX8) (T := TX8) (N := 16) hx hb hts hinX8 hown hK hP 0 rfl rfl 1 (by decide) lk7 (fun _ h9 => h9) rfl dX8_isSilenced_7 ?_
  refine n_iconst hx hb 4 dX8_isSilenced_10 (by decide) ?_
  refine n_iald hx hb hK hP 1 0 rfl rfl 4 (by decide) (by decide) dX8_isSilenced_11 ?_
  refine lv_icmp_lt (tgt := 19) hx hb dX8_isSilenced_12 (by decide) (fun c_1 => ?_) (fun c_2 => ?_)
  · skip
    refine n_iconst hx hb 0 dX8_isSilenced_19 (by decide) ?_
    subst hQ
    exact e_roz hx hb hr hlocks (by first | rfl | exact nar_b _) (by simp [mSi, bI, c_1]) dX8_isSilenced_20
  · skip
    refine n_iconst hx hb 1 dX8_isSilenced_15 (by decide) ?_
    refine lv_goto (tgt := 20) hx hb dX8_isSilenced_16 (by decide) ?_
    subst hQ
    exact e_roz hx hb hr hlocks (by first | rfl | exact nar_b _) (by simp [mSi, bI, c_2]) dX8_isSilenced_20
set_option maxHeartbeats 4000000 in
set_option maxRecDepth 100000 in
theorem c_X8_whyNotWhistled (l : Launch) (G : va_G) (T : Nat → ClassId) (A : Nat → Prop) (q : Nat → Nat) (Z : Nat → Nat → Int32) (g : Int64) (r : Nat) (mm : Nat) (hr6 : r < 6) (hm20 : mm < 20) : RO l yX8_whyNotWhistled wsX8_whyNotWhistled 2 G T A (oX8 T q Z g) [.ref (q 0), .int (nI r), .int (nI mm)] (mWy Z r mm) := by
  refine Met.ofW (cc := cX8_whyNotWhistled) (maxL := 3) (ret := (some .int)) (by decide) rfl ?_
  intro p e s m args below meth c s₁ B hml hv
  obtain ⟨ha, hP, hK, hE⟩ := hv
  have hx := B.exec
  have hb := B.bytes
  have hr := B.returns
  have hlocks := B.notSynchronized
  have hts := atoms_spec (ws := wsX8_whyNotWhistled) B.pre
  have hown : s.vm.findClass RX8 = some m.cls := findClass_of_methodNamed B.named
  have cx : CallFix p m c cX8_whyNotWhistled 3 s args wsX8_whyNotWhistled RX8 := ⟨hx, hb, hml, hown, hts⟩
  refine w_entry ha (Nat.le_of_ble_eq_true rfl) (fun ls hl => ?_)
  refine w_q (fun Q0 hQ => ?_)
  have hl : lv_has ls 3 [(0, .ref (q 0)), (1, .int (nI r)), (2, .int (nI mm))] := hl
  have hP : va_P G vwCl [(q 0, .inr (8, [.int (Z 0 0), .ref (q 2), .ref (q 3), .int (Z 0 3), .ref (q 5), .int (Z 0 5), .ref (q 7), .int (Z 0 7), .int (Z 0 8), .int (Z 0 9), .int (Z 0 10), .int (Z 0 11), .ref (q 13), .int (Z 0 13), .ref (q 15), .long g])), (q 2, .inl (T 0, 267, .inl (Z 2))), (q 3, .inl (T 0, 1602, .inl (Z 3))), (q 5, .inl (T 0, 267, .inl (Z 5))), (q 7, .inl (T 0, 60, .inl (Z 7))), (q 13, .inl (T 0, 8, .inl (Z 13))), (q 15, .inl (T 0, 3, .inl (Z 15)))] s.heap := hP
  refine lv_aload_n hx hb dX8_whyNotWhistled_0 rfl (lv_at hl 0 rfl) ?_
  refine lv_iload_n hx hb dX8_whyNotWhistled_1 rfl (lv_at hl 1 rfl) ?_
  refine k_roV (As := [.int (nI r)]) (rest := []) (wc := oX8 T q Z g) (d := 1) (v := bI (mSi Z r)) cx (c_X8_isSilenced l G T A q Z g r (by omega)) (cwV 1 hts gX8_whyNotWhistled_X8_isSilenced rfl rfl rfl (by decide +kernel) ⟨Nat.le_of_ble_eq_true rfl, Nat.le_of_ble_eq_true rfl⟩) hP hK hE (va_recv hK hP (ci := 8) (q0 := 0) rfl rfl) rfl hl.1 rfl (Nat.le_of_ble_eq_true rfl) dX8_whyNotWhistled_2 ⟨Nat.le_of_ble_eq_true rfl, Nat.le_of_ble_eq_true rfl⟩ ?_
  refine b_if_eq (b := mSi Z r) (tgt := 12) hx hb dX8_whyNotWhistled_5 (by decide) (fun c_1 => ?_) (fun c_2 => ?_)
  · skip
    refine lv_aload_n hx hb dX8_whyNotWhistled_12 rfl (lv_at hl 0 rfl) ?_
    refine lv_iload_n hx hb dX8_whyNotWhistled_13 rfl (lv_at hl 2 rfl) ?_
    refine n_iconst hx hb 0 dX8_whyNotWhistled_14 (by decide) ?_
    refine k_roV (As := [.int (nI mm), .int (nI 0)]) (rest := []) (wc := oX8 T q Z g) (d := 0) (v := (Z 2) (47 + 11 * mm)) cx (c_X8_ofMessage l G T A q Z g mm 0 (by omega) (by omega)) (cwV 2 hts gX8_whyNotWhistled_X8_ofMessage rfl rfl rfl (by decide +kernel) ⟨Nat.le_of_ble_eq_true rfl, Nat.le_of_ble_eq_true rfl⟩) hP hK hE (va_recv hK hP (ci := 8) (q0 := 0) rfl rfl) rfl hl.1 rfl (Nat.le_of_ble_eq_true rfl) dX8_whyNotWhistled_15 ⟨Nat.le_of_ble_eq_true rfl, Nat.le_of_ble_eq_true rfl⟩ ?_
    refine lv_if_ne (tgt := 25) hx hb dX8_whyNotWhistled_18 (by decide) (fun c_3 => ?_) (fun c_4 => ?_)
    · skip
      refine n_iconst hx hb 0 dX8_whyNotWhistled_25 (by decide) ?_
      subst hQ
      exact e_ro hx hb hr hlocks (by simp [mWy, c_1, c_3]) dX8_whyNotWhistled_26
    · skip
      refine n_iconst hx hb 2 dX8_whyNotWhistled_21 (by decide) ?_
      refine lv_goto (tgt := 26) hx hb dX8_whyNotWhistled_22 (by decide) ?_
      subst hQ
      exact e_ro hx hb hr hlocks (by simp [mWy, c_1, c_4]) dX8_whyNotWhistled_26
  · skip
    refine n_iconst hx hb 1 dX8_whyNotWhistled_8 (by decide) ?_
    refine lv_goto (tgt := 26) hx hb dX8_whyNotWhistled_9 (by decide) ?_
    subst hQ
    exact e_ro hx hb hr hlocks (by simp [mWy, c_2]) dX8_whyNotWhistled_26
