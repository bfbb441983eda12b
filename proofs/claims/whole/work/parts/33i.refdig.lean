/-! the reference's share and digest (printed by wip/whole/s56.py) -/
def mShare (k a : Int32) : UInt64 := if a = 0 then FP.dconst1 else FP.ddiv (FP.i2d k) (FP.i2d a)
theorem mShare_n (k a : Int32) : FP.dcmp (mShare k a) (mShare k a) = some .eq := by
  unfold mShare
  split
  · decide +kernel
  · exact n64_self (ddiv_n64 _ _ (by assumption))
def mSh9 (Z : Nat → Nat → Int32) : UInt64 := mShare (mSu Z 4 6) (mSu Z 4 6 + mSu Z 5 6)
def dMx (g x : Int64) : Int64 := 31 * g + x
def mxM1 (Z : Nat → Nat → Int32) (m : Nat) (g : Int64) : Nat → Int64 | 0 => g | k + 1 => dMx (mxM1 Z m g k) (mTM Z m k).toInt64
def mxM2 (Z : Nat → Nat → Int32) (m : Nat) (g : Int64) : Nat → Int64 | 0 => mxM1 Z m g 4 | k + 1 => dMx (mxM2 Z m g k) (mTN Z m k).toInt64
def mxM (Z : Nat → Nat → Int32) (m : Nat) (g : Int64) : Int64 := dMx (mxM2 Z m g 8) ((mFr Z m 6).1).toInt64
def mxR1 (Z : Nat → Nat → Int32) (r : Nat) (g : Int64) : Nat → Int64 | 0 => g | k + 1 => dMx (mxR1 Z r g k) (mTR Z r k).toInt64
def mxR2 (Z : Nat → Nat → Int32) (r : Nat) (g : Int64) : Nat → Int64 | 0 => dMx (mxR1 Z r g 6) (mWy Z r 0).toInt64 | k + 1 => dMx (mxR2 Z r g k) (mWB Z r 12 k).toInt64
def mxR (Z : Nat → Nat → Int32) (r : Nat) (g : Int64) : Int64 := mxR2 Z r g 4
def mD1 (Z : Nat → Nat → Int32) (ln : Nat → Nat) : Nat → Int64 | 0 => 3911 | k + 1 => dMx (mD1 Z ln k) (mTC Z ln k).toInt64
def mD2 (Z : Nat → Nat → Int32) (g : Int64) : Nat → Int64 | 0 => g | k + 1 => mxM Z k (mD2 Z g k)
def mD3 (Z : Nat → Nat → Int32) (g : Int64) : Nat → Int64 | 0 => g | k + 1 => mxR Z k (mD3 Z g k)
def mD4 (Z : Nat → Nat → Int32) (g : Int64) : Nat → Int64 | 0 => g | k + 1 => dMx (mD4 Z g k) (Z 2 (k + 6)).toInt64
def mD5 (Z : Nat → Nat → Int32) (L : Nat) (g : Int64) : Nat → Int64 | 0 => dMx (dMx g (mSh9 Z).toInt64) (nI L).toInt64 | k + 1 => dMx (mD5 Z L g k) (Z 7 k).toInt64
def mDg (Z : Nat → Nat → Int32) (ln : Nat → Nat) (L : Nat) : Int64 := mD5 Z L (mD4 Z (mD3 Z (mD2 Z (mD1 Z ln 14) 20) 6) 8) L

set_option maxHeartbeats 4000000 in
set_option maxRecDepth 100000 in
theorem c_Jxe99ae_isNaN_b9ae7 (l : Launch) (G : va_G) (T : Nat → ClassId) (A : Nat → Prop) (x : UInt64) (hnn : FP.dcmp x x = some .eq) : RO l yJxe99ae_isNaN_b9ae7 wsJxe99ae_isNaN_b9ae7 0 G T A ([]) [.double x] (bI false) := by
  refine Met.ofW (cc := cJxe99ae_isNaN_b9ae7) (maxL := 2) (ret := (some .boolean)) (by decide) rfl ?_
  intro p e s m args below meth c s₁ B hml hv
  obtain ⟨ha, hP, hK, hE⟩ := hv
  have hx := B.exec
  have hb := B.bytes
  have hr := B.returns
  have hlocks := B.notSynchronized
  have hts := atoms_spec (ws := wsJxe99ae_isNaN_b9ae7) B.pre
  have hown : s.vm.findClass RJxe99ae = some m.cls := findClass_of_methodNamed B.named
  have cx : CallFix p m c cJxe99ae_isNaN_b9ae7 2 s args wsJxe99ae_isNaN_b9ae7 RJxe99ae := ⟨hx, hb, hml, hown, hts⟩
  refine w_entry ha (Nat.le_of_ble_eq_true rfl) (fun ls hl => ?_)
  refine w_q (fun Q0 hQ => ?_)
  have hl : lv_has ls 2 [(0, .double x)] := hl
  have hP : va_P G vwCl [] s.heap := hP
  refine lv_dload_n hx hb dJxe99ae_isNaN_b9ae7_0 rfl (lv_at hl 0 rfl) ?_
  refine lv_dload_n hx hb dJxe99ae_isNaN_b9ae7_1 rfl (lv_at hl 0 rfl) ?_
  refine lv_dcmp hx hb dJxe99ae_isNaN_b9ae7_2 ?_
  refine n_top (y := nI 0) (by rw [hnn]; rfl) ?_
  refine n_if_eq (a := 0) (tgt := 10) hx hb (by decide) dJxe99ae_isNaN_b9ae7_3 (by decide) (fun c_1 => ?_) (fun h9 => absurd h9 (by decide))
  refine n_iconst hx hb 0 dJxe99ae_isNaN_b9ae7_10 (by decide) ?_
  subst hQ
  exact e_roz hx hb hr hlocks (by first | rfl | exact nar_b _) rfl dJxe99ae_isNaN_b9ae7_11
set_option maxHeartbeats 4000000 in
set_option maxRecDepth 100000 in
theorem c_Jxe99ae_doubleToLongBits_ccdee (l : Launch) (G : va_G) (T : Nat → ClassId) (sz : Nat) (x : UInt64) (hnn : FP.dcmp x x = some .eq) : RWl l yJxe99ae_doubleToLongBits_ccdee wsJxe99ae_doubleToLongBits_ccdee 1 0 0 G T sz ([]) [.double x] x.toInt64 ([]) := by
  refine Met.ofW (cc := cJxe99ae_doubleToLongBits_ccdee) (maxL := 2) (ret := (some .long)) (by decide) rfl ?_
  intro p e s m args below meth c s₁ B hml hv
  obtain ⟨ha, hsz, hP, hK, hD0, hE0⟩ := hv
  have hx := B.exec
  have hb := B.bytes
  have hr := B.returns
  have hlocks := B.notSynchronized
  have hts := atoms_spec (ws := wsJxe99ae_doubleToLongBits_ccdee) B.pre
  have hown : s.vm.findClass RJxe99ae = some m.cls := findClass_of_methodNamed B.named
  have cx : CallFix p m c cJxe99ae_doubleToLongBits_ccdee 2 s args wsJxe99ae_doubleToLongBits_ccdee RJxe99ae := ⟨hx, hb, hml, hown, hts⟩
  subst hsz
  have hD := hD0.self (sz := s.heap.size)
  generalize hAe : va_A ([]) s.heap.size = A at hD hE0 ⊢
  have hE : gE A s s.heap := hE0
  have hA : ∀ q : Nat, s.heap.size ≤ q → A q := fun q h => by rw [← hAe]; exact Or.inr h
  have hS : va_S A s.heap s.heap [] := va_S.rf
  refine w_entry ha (Nat.le_of_ble_eq_true rfl) (fun ls hl => ?_)
  refine w_q (fun Q0 hQ => ?_)
  have hl : lv_has ls 2 [(0, .double x)] := hl
  have hP : va_P G vwCl [] s.heap := hP
  have hD : va_D A [] := hD
  skip
  refine w_h (fun H locs hHe hLe => ?_)
  have hP : va_P G vwCl [] H := by rw [hHe]; exact hP
  have hS : va_S A s.heap H locs := by rw [hHe, hLe]; exact hS
  refine lv_dload_n hx hb dJxe99ae_doubleToLongBits_ccdee_0 rfl (lv_at hl 0 rfl) ?_
  refine k_roS (As := [.double x]) (rest := []) (wc := []) (d := 0) (v := bI false) cx (c_Jxe99ae_isNaN_b9ae7 l G T A x hnn) (va_cwS 1 hts gJxe99ae_doubleToLongBits_ccdee_Jxe99ae_isNaN_b9ae7 rfl rfl rfl (by decide +kernel) ⟨Nat.le_of_ble_eq_true rfl, Nat.le_of_ble_eq_true rfl⟩) hP hK (hE.kept hS.2.1) rfl hl.1 rfl (Nat.le_of_ble_eq_true rfl) dJxe99ae_doubleToLongBits_ccdee_1 ⟨Nat.le_of_ble_eq_true rfl, Nat.le_of_ble_eq_true rfl⟩ ?_
  refine b_if_ne (b := false) (tgt := 12) hx hb dJxe99ae_doubleToLongBits_ccdee_4 (by decide) (fun c_1 => by exfalso; cases c_1) (fun c_2 => ?_)
  refine lv_dload_n hx hb dJxe99ae_doubleToLongBits_ccdee_7 rfl (lv_at hl 0 rfl) ?_
  refine vn_d2l hx hb (hml.trans hl.1.symm) hown (hts (.methodLink RJxe99ae 134 ⟨"java/lang/Double", "doubleToRawLongBits", "(D)J"⟩) (by decide +kernel)) (hts (.native ⟨"java/lang/Double", "doubleToRawLongBits", "(D)J"⟩) (by decide +kernel)) (hts (.static ⟨"java/lang/Double", "doubleToRawLongBits", "(D)J"⟩) (by decide +kernel)) (hts (.initialized "java/lang/Double") (by decide +kernel)) (Nat.le_of_ble_eq_true rfl) (Nat.le_of_ble_eq_true rfl) dJxe99ae_doubleToLongBits_ccdee_8 ?_
  subst hQ
  have hP9 : va_P G vwCl ([]) H := hP
  have hD9 : va_D A ([]) := hD
  exact e_rwl hx hb hr hlocks hS rfl hP9 hD9 dJxe99ae_doubleToLongBits_ccdee_11
set_option maxHeartbeats 4000000 in
set_option maxRecDepth 100000 in
theorem c_X8_share (l : Launch) (G : va_G) (T : Nat → ClassId) (sz : Nat) (q : Nat → Nat) (Z : Nat → Nat → Int32) (g : Int64) : RWd l yX8_share wsX8_share 4 0 0 G T sz (oX8 T q Z g) [.ref (q 0)] (mSh9 Z) (oX8 T q Z g) := by
  refine Met.ofW (cc := cX8_share) (maxL := 3) (ret := (some .double)) (by decide) rfl ?_
  intro p e s m args below meth c s₁ B hml hv
  obtain ⟨ha, hsz, hP, hK, hD0, hE0⟩ := hv
  have hx := B.exec
  have hb := B.bytes
  have hr := B.returns
  have hlocks := B.notSynchronized
  have hts := atoms_spec (ws := wsX8_share) B.pre
  have hown : s.vm.findClass RX8 = some m.cls := findClass_of_methodNamed B.named
  have cx : CallFix p m c cX8_share 3 s args wsX8_share RX8 := ⟨hx, hb, hml, hown, hts⟩
  subst hsz
  have hD := hD0.self (sz := s.heap.size)
  generalize hAe : va_A (oX8 T q Z g) s.heap.size = A at hD hE0 ⊢
  have hE : gE A s s.heap := hE0
  have hA : ∀ q : Nat, s.heap.size ≤ q → A q := fun q h => by rw [← hAe]; exact Or.inr h
  have hS : va_S A s.heap s.heap [] := va_S.rf
  refine w_entry ha (Nat.le_of_ble_eq_true rfl) (fun ls hl => ?_)
  refine w_q (fun Q0 hQ => ?_)
  have hl : lv_has ls 3 [(0, .ref (q 0))] := hl
  have hP : va_P G vwCl [(q 0, .inr (8, [.int (Z 0 0), .ref (q 2), .ref (q 3), .int (Z 0 3), .ref (q 5), .int (Z 0 5), .ref (q 7), .int (Z 0 7), .int (Z 0 8), .int (Z 0 9), .int (Z 0 10), .int (Z 0 11), .ref (q 13), .int (Z 0 13), .ref (q 15), .long g])), (q 2, .inl (T 0, 267, .inl (Z 2))), (q 3, .inl (T 0, 1602, .inl (Z 3))), (q 5, .inl (T 0, 267, .inl (Z 5))), (q 7, .inl (T 0, 60, .inl (Z 7))), (q 13, .inl (T 0, 8, .inl (Z 13))), (q 15, .inl (T 0, 3, .inl (Z 15)))] s.heap := hP
  have hD : va_D A [(q 0, .inr (8, [.int (Z 0 0), .ref (q 2), .ref (q 3), .int (Z 0 3), .ref (q 5), .int (Z 0 5), .ref (q 7), .int (Z 0 7), .int (Z 0 8), .int (Z 0 9), .int (Z 0 10), .int (Z 0 11), .ref (q 13), .int (Z 0 13), .ref (q 15), .long g])), (q 2, .inl (T 0, 267, .inl (Z 2))), (q 3, .inl (T 0, 1602, .inl (Z 3))), (q 5, .inl (T 0, 267, .inl (Z 5))), (q 7, .inl (T 0, 60, .inl (Z 7))), (q 13, .inl (T 0, 8, .inl (Z 13))), (q 15, .inl (T 0, 3, .inl (Z 15)))] := hD
  skip
  refine w_h (fun H locs hHe hLe => ?_)
  have hP : va_P G vwCl [(q 0, .inr (8, [.int (Z 0 0), .ref (q 2), .ref (q 3), .int (Z 0 3), .ref (q 5), .int (Z 0 5), .ref (q 7), .int (Z 0 7), .int (Z 0 8), .int (Z 0 9), .int (Z 0 10), .int (Z 0 11), .ref (q 13), .int (Z 0 13), .ref (q 15), .long g])), (q 2, .inl (T 0, 267, .inl (Z 2))), (q 3, .inl (T 0, 1602, .inl (Z 3))), (q 5, .inl (T 0, 267, .inl (Z 5))), (q 7, .inl (T 0, 60, .inl (Z 7))), (q 13, .inl (T 0, 8, .inl (Z 13))), (q 15, .inl (T 0, 3, .inl (Z 15)))] H := by rw [hHe]; exact hP
  have hS : va_S A s.heap H locs := by rw [hHe, hLe]; exact hS
  refine lv_aload_n hx hb dX8_share_0 rfl (lv_at hl 0 rfl) ?_
  refine n_iconst hx hb 4 dX8_share_1 (by decide) ?_
  refine k_roV (As := [.int (nI 4)]) (rest := []) (wc := oX8 T q Z g) (d := 3) (v := mSu Z 4 6) cx (c_X8_sumOfRooms l G T A q Z g 4 (by omega)) (cwV 1 hts gX8_share_X8_sumOfRooms rfl rfl rfl (by decide +kernel) ⟨Nat.le_of_ble_eq_true rfl, Nat.le_of_ble_eq_true rfl⟩) hP hK (hE.kept hS.2.1) (va_recv hK hP (ci := 8) (q0 := 0) rfl rfl) rfl hl.1 rfl (Nat.le_of_ble_eq_true rfl) dX8_share_2 ⟨Nat.le_of_ble_eq_true rfl, Nat.le_of_ble_eq_true rfl⟩ ?_
  refine lv_istore_n (lv' := [(1, .int (mSu Z 4 6)), (0, .ref (q 0))]) hx hb dX8_share_5 rfl hl (by decide) rfl (fun ls hl => ?_)
  refine lv_iload_n hx hb dX8_share_6 rfl (lv_at hl 0 rfl) ?_
  refine lv_aload_n hx hb dX8_share_7 rfl (lv_at hl 1 rfl) ?_
  refine n_iconst hx hb 5 dX8_share_8 (by decide) ?_
  refine k_roV (As := [.int (nI 5)]) (rest := [.int (mSu Z 4 6)]) (wc := oX8 T q Z g) (d := 3) (v := mSu Z 5 6) cx (c_X8_sumOfRooms l G T A q Z g 5 (by omega)) (cwV 1 hts gX8_share_X8_sumOfRooms rfl rfl rfl (by decide +kernel) ⟨Nat.le_of_ble_eq_true rfl, Nat.le_of_ble_eq_true rfl⟩) hP hK (hE.kept hS.2.1) (va_recv hK hP (ci := 8) (q0 := 0) rfl rfl) rfl hl.1 rfl (Nat.le_of_ble_eq_true rfl) dX8_share_9 ⟨Nat.le_of_ble_eq_true rfl, Nat.le_of_ble_eq_true rfl⟩ ?_
  refine lv_iadd hx hb dX8_share_12 ?_
  refine lv_istore_n (lv' := [(2, .int ((mSu Z 4 6) + (mSu Z 5 6))), (1, .int (mSu Z 4 6)), (0, .ref (q 0))]) hx hb dX8_share_13 rfl hl (by decide) rfl (fun ls hl => ?_)
  refine lv_iload_n hx hb dX8_share_14 rfl (lv_at hl 0 rfl) ?_
  refine lv_if_ne (tgt := 22) hx hb dX8_share_15 (by decide) (fun c_1 => ?_) (fun c_2 => ?_)
  · skip
    refine lv_iload_n hx hb dX8_share_22 rfl (lv_at hl 1 rfl) ?_
    refine lv_i2d hx hb dX8_share_23 ?_
    refine lv_iload_n hx hb dX8_share_24 rfl (lv_at hl 0 rfl) ?_
    refine lv_i2d hx hb dX8_share_25 ?_
    refine lv_ddiv (x := FP.i2d (mSu Z 4 6)) (y := FP.i2d ((mSu Z 4 6) + (mSu Z 5 6))) hx hb dX8_share_26 (ddiv_n64 _ _ (by assumption)) ?_
    subst hQ
    have hP9 : va_P G vwCl (oX8 T q Z g) H := hP
    have hD9 : va_D A (oX8 T q Z g) := hD
    exact e_rwd hx hb hr hlocks hS (by unfold mSh9 mShare; first | exact (if_pos c_1).symm | exact (if_neg c_1).symm) hP9 hD9 dX8_share_27
  · skip
    refine lv_dconst1 hx hb dX8_share_18 ?_
    refine lv_goto (tgt := 27) hx hb dX8_share_19 (by decide) ?_
    subst hQ
    have hP9 : va_P G vwCl (oX8 T q Z g) H := hP
    have hD9 : va_D A (oX8 T q Z g) := hD
    exact e_rwd hx hb hr hlocks hS (by unfold mSh9 mShare; first | exact (if_pos c_2).symm | exact (if_neg c_2).symm) hP9 hD9 dX8_share_27
set_option maxHeartbeats 4000000 in
set_option maxRecDepth 100000 in
theorem c_X8_understoodShare (l : Launch) (G : va_G) (T : Nat → ClassId) (sz : Nat) (q : Nat → Nat) (Z : Nat → Nat → Int32) (g : Int64) : RWd l yX8_understoodShare wsX8_understoodShare 5 0 0 G T sz (oX8 T q Z g) [.ref (q 0)] (mSh9 (sc Z 0 (nI 0))) (oX8 T q (sc Z 0 (nI 0)) g) := by
  refine Met.ofW (cc := cX8_understoodShare) (maxL := 1) (ret := (some .double)) (by decide) rfl ?_
  intro p e s m args below meth c s₁ B hml hv
  obtain ⟨ha, hsz, hP, hK, hD0, hE0⟩ := hv
  have hx := B.exec
  have hb := B.bytes
  have hr := B.returns
  have hlocks := B.notSynchronized
  have hts := atoms_spec (ws := wsX8_understoodShare) B.pre
  have hown : s.vm.findClass RX8 = some m.cls := findClass_of_methodNamed B.named
  have cx : CallFix p m c cX8_understoodShare 1 s args wsX8_understoodShare RX8 := ⟨hx, hb, hml, hown, hts⟩
  subst hsz
  have hD := hD0.self (sz := s.heap.size)
  generalize hAe : va_A (oX8 T q Z g) s.heap.size = A at hD hE0 ⊢
  have hE : gE A s s.heap := hE0
  have hA : ∀ q : Nat, s.heap.size ≤ q → A q := fun q h => by rw [← hAe]; exact Or.inr h
  have hS : va_S A s.heap s.heap [] := va_S.rf
  refine w_entry ha (Nat.le_of_ble_eq_true rfl) (fun ls hl => ?_)
  refine w_q (fun Q0 hQ => ?_)
  have lk28 := hts (.fieldLink RX8 28 "WhistleTunesModel" "thrown" "I") (by decide +kernel)
  have hinX8 : ∀ w ∈ wsX80, w ∈ wsX8_understoodShare := by decide +kernel
  have hl : lv_has ls 1 [(0, .ref (q 0))] := hl
  have hP : va_P G vwCl [(q 0, .inr (8, [.int (Z 0 0), .ref (q 2), .ref (q 3), .int (Z 0 3), .ref (q 5), .int (Z 0 5), .ref (q 7), .int (Z 0 7), .int (Z 0 8), .int (Z 0 9), .int (Z 0 10), .int (Z 0 11), .ref (q 13), .int (Z 0 13), .ref (q 15), .long g])), (q 2, .inl (T 0, 267, .inl (Z 2))), (q 3, .inl (T 0, 1602, .inl (Z 3))), (q 5, .inl (T 0, 267, .inl (Z 5))), (q 7, .inl (T 0, 60, .inl (Z 7))), (q 13, .inl (T 0, 8, .inl (Z 13))), (q 15, .inl (T 0, 3, .inl (Z 15)))] s.heap := hP
  have hD : va_D A [(q 0, .inr (8, [.int (Z 0 0), .ref (q 2), .ref (q 3), .int (Z 0 3), .ref (q 5), .int (Z 0 5), .ref (q 7), .int (Z 0 7), .int (Z 0 8), .int (Z 0 9), .int (Z 0 10), .int (Z 0 11), .ref (q 13), .int (Z 0 13), .ref (q 15), .long g])), (q 2, .inl (T 0, 267, .inl (Z 2))), (q 3, .inl (T 0, 1602, .inl (Z 3))), (q 5, .inl (T 0, 267, .inl (Z 5))), (q 7, .inl (T 0, 60, .inl (Z 7))), (q 13, .inl (T 0, 8, .inl (Z 13))), (q 15, .inl (T 0, 3, .inl (Z 15)))] := hD
  skip
  refine w_h (fun H locs hHe hLe => ?_)
  have hP : va_P G vwCl [(q 0, .inr (8, [.int (Z 0 0), .ref (q 2), .ref (q 3), .int (Z 0 3), .ref (q 5), .int (Z 0 5), .ref (q 7), .int (Z 0 7), .int (Z 0 8), .int (Z 0 9), .int (Z 0 10), .int (Z 0 11), .ref (q 13), .int (Z 0 13), .ref (q 15), .long g])), (q 2, .inl (T 0, 267, .inl (Z 2))), (q 3, .inl (T 0, 1602, .inl (Z 3))), (q 5, .inl (T 0, 267, .inl (Z 5))), (q 7, .inl (T 0, 60, .inl (Z 7))), (q 13, .inl (T 0, 8, .inl (Z 13))), (q 15, .inl (T 0, 3, .inl (Z 15)))] H := by rw [hHe]; exact hP
  have hS : va_S A s.heap H locs := by rw [hHe, hLe]; exact hS
  refine lv_aload_n hx hb dX8_understoodShare_0 rfl (lv_at hl 0 rfl) ?_
  refine n_iconst hx hb 0 dX8_understoodShare_1 (by decide) ?_
  refine va_put (D := G) (ci := 8) (v := .int (nI 0)) (ty := .int) (C := RX8) (T := TX8) (N := 16) hx hb hts hinX8 tyX8 tyX8_ok nmX8 hown hK hP hD hS 0 rfl rfl 0 (by decide) lk28 (fun _ h9 => h9) rfl (by decide +kernel) rfl rfl (Nat.le_of_ble_eq_true rfl) dX8_understoodShare_2 (fun H locs hP hD hS => ?_)
  have hP : va_P G vwCl [(q 0, .inr (8, [.int (nI 0), .ref (q 2), .ref (q 3), .int (Z 0 3), .ref (q 5), .int (Z 0 5), .ref (q 7), .int (Z 0 7), .int (Z 0 8), .int (Z 0 9), .int (Z 0 10), .int (Z 0 11), .ref (q 13), .int (Z 0 13), .ref (q 15), .long g])), (q 2, .inl (T 0, 267, .inl (Z 2))), (q 3, .inl (T 0, 1602, .inl (Z 3))), (q 5, .inl (T 0, 267, .inl (Z 5))), (q 7, .inl (T 0, 60, .inl (Z 7))), (q 13, .inl (T 0, 8, .inl (Z 13))), (q 15, .inl (T 0, 3, .inl (Z 15)))] H := hP
  have hD : va_D A [(q 0, .inr (8, [.int (nI 0), .ref (q 2), .ref (q 3), .int (Z 0 3), .ref (q 5), .int (Z 0 5), .ref (q 7), .int (Z 0 7), .int (Z 0 8), .int (Z 0 9), .int (Z 0 10), .int (Z 0 11), .ref (q 13), .int (Z 0 13), .ref (q 15), .long g])), (q 2, .inl (T 0, 267, .inl (Z 2))), (q 3, .inl (T 0, 1602, .inl (Z 3))), (q 5, .inl (T 0, 267, .inl (Z 5))), (q 7, .inl (T 0, 60, .inl (Z 7))), (q 13, .inl (T 0, 8, .inl (Z 13))), (q 15, .inl (T 0, 3, .inl (Z 15)))] := hD
  refine lv_aload_n hx hb dX8_understoodShare_5 rfl (lv_at hl 0 rfl) ?_
  refine k_rdV (As := []) (rest := []) (wc := oX8 T q (sc Z 0 (nI 0)) g) (wr := []) (w1 := oX8 T q (sc Z 0 (nI 0)) g) (d := 4) (mc := 0) (ms := 0) (v := mSh9 (sc Z 0 (nI 0))) (isC := [0, 1, 2, 3, 4, 5, 6]) (isR := []) cx (c_X8_share l G T H.size q (sc Z 0 (nI 0)) g ) (cwV 0 hts gX8_understoodShare_X8_share rfl rfl rfl (by decide +kernel) ⟨Nat.le_of_ble_eq_true rfl, Nat.le_of_ble_eq_true rfl⟩) ⟨hP, hD, hS, hA, hE, hK, rfl, rfl, rfl, rfl, by decide⟩ (va_recv hK hP (ci := 8) (q0 := 0) rfl rfl) rfl hl.1 rfl (Nat.le_of_ble_eq_true rfl) dX8_understoodShare_6 ⟨Nat.le_of_ble_eq_true rfl, Nat.le_of_ble_eq_true rfl⟩ (fun H locs hP hD hS hz => ?_)
  have hP : va_P G vwCl [(q 0, .inr (8, [.int (nI 0), .ref (q 2), .ref (q 3), .int (Z 0 3), .ref (q 5), .int (Z 0 5), .ref (q 7), .int (Z 0 7), .int (Z 0 8), .int (Z 0 9), .int (Z 0 10), .int (Z 0 11), .ref (q 13), .int (Z 0 13), .ref (q 15), .long g])), (q 2, .inl (T 0, 267, .inl (Z 2))), (q 3, .inl (T 0, 1602, .inl (Z 3))), (q 5, .inl (T 0, 267, .inl (Z 5))), (q 7, .inl (T 0, 60, .inl (Z 7))), (q 13, .inl (T 0, 8, .inl (Z 13))), (q 15, .inl (T 0, 3, .inl (Z 15)))] H := hP
  have hD : va_D A [(q 0, .inr (8, [.int (nI 0), .ref (q 2), .ref (q 3), .int (Z 0 3), .ref (q 5), .int (Z 0 5), .ref (q 7), .int (Z 0 7), .int (Z 0 8), .int (Z 0 9), .int (Z 0 10), .int (Z 0 11), .ref (q 13), .int (Z 0 13), .ref (q 15), .long g])), (q 2, .inl (T 0, 267, .inl (Z 2))), (q 3, .inl (T 0, 1602, .inl (Z 3))), (q 5, .inl (T 0, 267, .inl (Z 5))), (q 7, .inl (T 0, 60, .inl (Z 7))), (q 13, .inl (T 0, 8, .inl (Z 13))), (q 15, .inl (T 0, 3, .inl (Z 15)))] := hD
  subst hQ
  have hP9 : va_P G vwCl (oX8 T q (sc Z 0 (nI 0)) g) H := hP
  have hD9 : va_D A (oX8 T q (sc Z 0 (nI 0)) g) := hD
  exact e_rwd hx hb hr hlocks hS rfl hP9 hD9 dX8_understoodShare_9
set_option maxHeartbeats 4000000 in
set_option maxRecDepth 100000 in
theorem c_X8_mix (l : Launch) (G : va_G) (T : Nat → ClassId) (sz : Nat) (q : Nat → Nat) (Z : Nat → Nat → Int32) (g : Int64) (x : Int64) : RWv l yX8_mix wsX8_mix 0 0 0 G T sz (oX8 T q Z g) [.ref (q 0), .long x] (oX8 T q Z (dMx g x)) := by
  refine Met.ofW (cc := cX8_mix) (maxL := 3) (ret := none) (by decide) rfl ?_
  intro p e s m args below meth c s₁ B hml hv
  obtain ⟨ha, hsz, hP, hK, hD0, hE0⟩ := hv
  have hx := B.exec
  have hb := B.bytes
  have hr := B.returns
  have hlocks := B.notSynchronized
  have hts := atoms_spec (ws := wsX8_mix) B.pre
  have hown : s.vm.findClass RX8 = some m.cls := findClass_of_methodNamed B.named
  have cx : CallFix p m c cX8_mix 3 s args wsX8_mix RX8 := ⟨hx, hb, hml, hown, hts⟩
  subst hsz
  have hD := hD0.self (sz := s.heap.size)
  generalize hAe : va_A (oX8 T q Z g) s.heap.size = A at hD hE0 ⊢
  have hE : gE A s s.heap := hE0
  have hA : ∀ q : Nat, s.heap.size ≤ q → A q := fun q h => by rw [← hAe]; exact Or.inr h
  have hS : va_S A s.heap s.heap [] := va_S.rf
  refine w_entry ha (Nat.le_of_ble_eq_true rfl) (fun ls hl => ?_)
  refine w_q (fun Q0 hQ => ?_)
  have lk245 := hts (.fieldLink RX8 245 "WhistleTunesModel" "hash" "J") (by decide +kernel)
  have hinX8 : ∀ w ∈ wsX80, w ∈ wsX8_mix := by decide +kernel
  have hl : lv_has ls 3 [(0, .ref (q 0)), (1, .long x)] := hl
  have hP : va_P G vwCl [(q 0, .inr (8, [.int (Z 0 0), .ref (q 2), .ref (q 3), .int (Z 0 3), .ref (q 5), .int (Z 0 5), .ref (q 7), .int (Z 0 7), .int (Z 0 8), .int (Z 0 9), .int (Z 0 10), .int (Z 0 11), .ref (q 13), .int (Z 0 13), .ref (q 15), .long g])), (q 2, .inl (T 0, 267, .inl (Z 2))), (q 3, .inl (T 0, 1602, .inl (Z 3))), (q 5, .inl (T 0, 267, .inl (Z 5))), (q 7, .inl (T 0, 60, .inl (Z 7))), (q 13, .inl (T 0, 8, .inl (Z 13))), (q 15, .inl (T 0, 3, .inl (Z 15)))] s.heap := hP
  have hD : va_D A [(q 0, .inr (8, [.int (Z 0 0), .ref (q 2), .ref (q 3), .int (Z 0 3), .ref (q 5), .int (Z 0 5), .ref (q 7), .int (Z 0 7), .int (Z 0 8), .int (Z 0 9), .int (Z 0 10), .int (Z 0 11), .ref (q 13), .int (Z 0 13), .ref (q 15), .long g])), (q 2, .inl (T 0, 267, .inl (Z 2))), (q 3, .inl (T 0, 1602, .inl (Z 3))), (q 5, .inl (T 0, 267, .inl (Z 5))), (q 7, .inl (T 0, 60, .inl (Z 7))), (q 13, .inl (T 0, 8, .inl (Z 13))), (q 15, .inl (T 0, 3, .inl (Z 15)))] := hD
  skip
  refine w_h (fun H locs hHe hLe => ?_)
  have hP : va_P G vwCl [(q 0, .inr (8, [.int (Z 0 0), .ref (q 2), .ref (q 3), .int (Z 0 3), .ref (q 5), .int (Z 0 5), .ref (q 7), .int (Z 0 7), .int (Z 0 8), .int (Z 0 9), .int (Z 0 10), .int (Z 0 11), .ref (q 13), .int (Z 0 13), .ref (q 15), .long g])), (q 2, .inl (T 0, 267, .inl (Z 2))), (q 3, .inl (T 0, 1602, .inl (Z 3))), (q 5, .inl (T 0, 267, .inl (Z 5))), (q 7, .inl (T 0, 60, .inl (Z 7))), (q 13, .inl (T 0, 8, .inl (Z 13))), (q 15, .inl (T 0, 3, .inl (Z 15)))] H := by rw [hHe]; exact hP
  have hS : va_S A s.heap H locs := by rw [hHe, hLe]; exact hS
  refine lv_aload_n hx hb dX8_mix_0 rfl (lv_at hl 0 rfl) ?_
  refine lv_ldc2 (v := 31) hx hb hown (hts (.constantLong RX8 243 (31)) (by decide +kernel)) dX8_mix_1 ?_
  refine lv_aload_n hx hb dX8_mix_4 rfl (lv_at hl 0 rfl) ?_
  refine va_get (D := G) (ci := 8) (v := .long g) (C := RX8) (T := TX8) (N := 16) hx hb hts hinX8 hown hK hP 0 rfl rfl 15 (by decide) lk245 (fun _ h9 => h9) rfl dX8_mix_5 ?_
  refine lv_lmul hx hb dX8_mix_8 ?_
  refine lv_lload_n hx hb dX8_mix_9 rfl (lv_at hl 1 rfl) ?_
  refine lv_ladd hx hb dX8_mix_10 ?_
  refine va_put (D := G) (ci := 8) (v := .long (((31 : Int64) * g) + x)) (ty := .long) (C := RX8) (T := TX8) (N := 16) hx hb hts hinX8 tyX8 tyX8_ok nmX8 hown hK hP hD hS 0 rfl rfl 15 (by decide) lk245 (fun _ h9 => h9) rfl (by decide +kernel) rfl rfl (Nat.le_of_ble_eq_true rfl) dX8_mix_11 (fun H locs hP hD hS => ?_)
  have hP : va_P G vwCl [(q 0, .inr (8, [.int (Z 0 0), .ref (q 2), .ref (q 3), .int (Z 0 3), .ref (q 5), .int (Z 0 5), .ref (q 7), .int (Z 0 7), .int (Z 0 8), .int (Z 0 9), .int (Z 0 10), .int (Z 0 11), .ref (q 13), .int (Z 0 13), .ref (q 15), .long (((31 : Int64) * g) + x)])), (q 2, .inl (T 0, 267, .inl (Z 2))), (q 3, .inl (T 0, 1602, .inl (Z 3))), (q 5, .inl (T 0, 267, .inl (Z 5))), (q 7, .inl (T 0, 60, .inl (Z 7))), (q 13, .inl (T 0, 8, .inl (Z 13))), (q 15, .inl (T 0, 3, .inl (Z 15)))] H := hP
  have hD : va_D A [(q 0, .inr (8, [.int (Z 0 0), .ref (q 2), .ref (q 3), .int (Z 0 3), .ref (q 5), .int (Z 0 5), .ref (q 7), .int (Z 0 7), .int (Z 0 8), .int (Z 0 9), .int (Z 0 10), .int (Z 0 11), .ref (q 13), .int (Z 0 13), .ref (q 15), .long (((31 : Int64) * g) + x)])), (q 2, .inl (T 0, 267, .inl (Z 2))), (q 3, .inl (T 0, 1602, .inl (Z 3))), (q 5, .inl (T 0, 267, .inl (Z 5))), (q 7, .inl (T 0, 60, .inl (Z 7))), (q 13, .inl (T 0, 8, .inl (Z 13))), (q 15, .inl (T 0, 3, .inl (Z 15)))] := hD
  subst hQ
  have e_1 : ((31 : Int64) * g) + x = dMx g x := rfl
  rw [e_1] at hP hD
  have hP9 : va_P G vwCl (oX8 T q Z (dMx g x)) H := hP
  have hD9 : va_D A (oX8 T q Z (dMx g x)) := hD
  exact e_rwv hx hb hr hlocks hS hP9 hD9 dX8_mix_14
set_option maxHeartbeats 4000000 in
set_option maxRecDepth 100000 in
theorem c_X8_mixMessage (l : Launch) (G : va_G) (T : Nat → ClassId) (sz : Nat) (q : Nat → Nat) (Z : Nat → Nat → Int32) (g : Int64) (mm : Nat) (hm20 : mm < 20) : RWv l yX8_mixMessage wsX8_mixMessage 6 0 0 G T sz (oX8 T q Z g) [.ref (q 0), .int (nI mm)] (oX8 T q Z (mxM Z mm g)) := by
  refine Met.ofW (cc := cX8_mixMessage) (maxL := 3) (ret := none) (by decide) rfl ?_
  intro p e s m args below meth c s₁ B hml hv
  obtain ⟨ha, hsz, hP, hK, hD0, hE0⟩ := hv
  have hx := B.exec
  have hb := B.bytes
  have hr := B.returns
  have hlocks := B.notSynchronized
  have hts := atoms_spec (ws := wsX8_mixMessage) B.pre
  have hown : s.vm.findClass RX8 = some m.cls := findClass_of_methodNamed B.named
  have cx : CallFix p m c cX8_mixMessage 3 s args wsX8_mixMessage RX8 := ⟨hx, hb, hml, hown, hts⟩
  subst hsz
  have hD := hD0.self (sz := s.heap.size)
  generalize hAe : va_A (oX8 T q Z g) s.heap.size = A at hD hE0 ⊢
  have hE : gE A s s.heap := hE0
  have hA : ∀ q : Nat, s.heap.size ≤ q → A q := fun q h => by rw [← hAe]; exact Or.inr h
  have hS : va_S A s.heap s.heap [] := va_S.rf
  refine w_entry ha (Nat.le_of_ble_eq_true rfl) (fun ls hl => ?_)
  refine w_q (fun Q0 hQ => ?_)
  have hl : lv_has ls 3 [(0, .ref (q 0)), (1, .int (nI mm))] := hl
  have hP : va_P G vwCl [(q 0, .inr (8, [.int (Z 0 0), .ref (q 2), .ref (q 3), .int (Z 0 3), .ref (q 5), .int (Z 0 5), .ref (q 7), .int (Z 0 7), .int (Z 0 8), .int (Z 0 9), .int (Z 0 10), .int (Z 0 11), .ref (q 13), .int (Z 0 13), .ref (q 15), .long g])), (q 2, .inl (T 0, 267, .inl (Z 2))), (q 3, .inl (T 0, 1602, .inl (Z 3))), (q 5, .inl (T 0, 267, .inl (Z 5))), (q 7, .inl (T 0, 60, .inl (Z 7))), (q 13, .inl (T 0, 8, .inl (Z 13))), (q 15, .inl (T 0, 3, .inl (Z 15)))] s.heap := hP
  have hD : va_D A [(q 0, .inr (8, [.int (Z 0 0), .ref (q 2), .ref (q 3), .int (Z 0 3), .ref (q 5), .int (Z 0 5), .ref (q 7), .int (Z 0 7), .int (Z 0 8), .int (Z 0 9), .int (Z 0 10), .int (Z 0 11), .ref (q 13), .int (Z 0 13), .ref (q 15), .long g])), (q 2, .inl (T 0, 267, .inl (Z 2))), (q 3, .inl (T 0, 1602, .inl (Z 3))), (q 5, .inl (T 0, 267, .inl (Z 5))), (q 7, .inl (T 0, 60, .inl (Z 7))), (q 13, .inl (T 0, 8, .inl (Z 13))), (q 15, .inl (T 0, 3, .inl (Z 15)))] := hD
  skip
  refine w_h (fun H locs hHe hLe => ?_)
  have hP : va_P G vwCl [(q 0, .inr (8, [.int (Z 0 0), .ref (q 2), .ref (q 3), .int (Z 0 3), .ref (q 5), .int (Z 0 5), .ref (q 7), .int (Z 0 7), .int (Z 0 8), .int (Z 0 9), .int (Z 0 10), .int (Z 0 11), .ref (q 13), .int (Z 0 13), .ref (q 15), .long g])), (q 2, .inl (T 0, 267, .inl (Z 2))), (q 3, .inl (T 0, 1602, .inl (Z 3))), (q 5, .inl (T 0, 267, .inl (Z 5))), (q 7, .inl (T 0, 60, .inl (Z 7))), (q 13, .inl (T 0, 8, .inl (Z 13))), (q 15, .inl (T 0, 3, .inl (Z 15)))] H := by rw [hHe]; exact hP
  have hS : va_S A s.heap H locs := by rw [hHe, hLe]; exact hS
  refine n_iconst hx hb 0 dX8_mixMessage_0 (by decide) ?_
  refine lv_istore_n (lv' := [(2, .int (nI 0)), (0, .ref (q 0)), (1, .int (nI mm))]) hx hb dX8_mixMessage_1 rfl hl (by decide) rfl (fun ls hl => ?_)
  have L2 : ∀ (n9 k : Nat) (hk1 : k ≤ 4) (hk2 : 4 - k < n9) (x2 : Int32) (gg_1 : Int64) (hx2 : x2 = nI k) (hgg_1 : gg_1 = mxM1 Z mm g k) (H : Heap) (locs : List Loc) (hP : va_P G vwCl [(q 0, .inr (8, [.int (Z 0 0), .ref (q 2), .ref (q 3), .int (Z 0 3), .ref (q 5), .int (Z 0 5), .ref (q 7), .int (Z 0 7), .int (Z 0 8), .int (Z 0 9), .int (Z 0 10), .int (Z 0 11), .ref (q 13), .int (Z 0 13), .ref (q 15), .long gg_1])), (q 2, .inl (T 0, 267, .inl (Z 2))), (q 3, .inl (T 0, 1602, .inl (Z 3))), (q 5, .inl (T 0, 267, .inl (Z 5))), (q 7, .inl (T 0, 60, .inl (Z 7))), (q 13, .inl (T 0, 8, .inl (Z 13))), (q 15, .inl (T 0, 3, .inl (Z 15)))] H) (hD : va_D A [(q 0, .inr (8, [.int (Z 0 0), .ref (q 2), .ref (q 3), .int (Z 0 3), .ref (q 5), .int (Z 0 5), .ref (q 7), .int (Z 0 7), .int (Z 0 8), .int (Z 0 9), .int (Z 0 10), .int (Z 0 11), .ref (q 13), .int (Z 0 13), .ref (q 15), .long gg_1])), (q 2, .inl (T 0, 267, .inl (Z 2))), (q 3, .inl (T 0, 1602, .inl (Z 3))), (q 5, .inl (T 0, 267, .inl (Z 5))), (q 7, .inl (T 0, 60, .inl (Z 7))), (q 13, .inl (T 0, 8, .inl (Z 13))), (q 15, .inl (T 0, 3, .inl (Z 15)))]) (hS : va_S A s.heap H locs) (ls : Array Slot) (hl : lv_has ls 3 [(2, .int x2), (0, .ref (q 0)), (1, .int (nI mm))]), W p l e (headSpec wsX8_mixMessage (rmD 6 0 0)).room s m args below meth c H locs 0 0 Q0 (F0 m 2 ls []) := by
    intro n9
    induction n9 with
    | zero => intros; omega
    | succ n9 ih2 =>
      intro k hk1 hk2 x2 gg_1 hx2 hgg_1 H locs hP hD hS ls hl
      subst hx2 hgg_1
      refine lv_iload_n hx hb dX8_mixMessage_2 rfl (lv_at hl 0 rfl) ?_
      refine n_iconst hx hb 4 dX8_mixMessage_3 (by decide) ?_
      refine n_icmp_ge (a := k) (b := 4) (tgt := 24) hx hb (by omega) (by decide) dX8_mixMessage_4 (by decide) (fun c_2 => ?_) (fun c_3 => ?_)
      · skip
        obtain rfl : k = 4 := (by omega)
        refine n_iconst hx hb 0 dX8_mixMessage_24 (by decide) ?_
        refine lv_istore_n (lv' := [(2, .int (nI 0)), (0, .ref (q 0)), (1, .int (nI mm))]) hx hb dX8_mixMessage_25 rfl hl (by decide) rfl (fun ls hl => ?_)
        have L26_i_4 : ∀ (n9 k : Nat) (hk1 : k ≤ 8) (hk2 : 8 - k < n9) (x2 : Int32) (gg_5 : Int64) (hx2 : x2 = nI k) (hgg_5 : gg_5 = mxM2 Z mm g k) (H : Heap) (locs : List Loc) (hP : va_P G vwCl [(q 0, .inr (8, [.int (Z 0 0), .ref (q 2), .ref (q 3), .int (Z 0 3), .ref (q 5), .int (Z 0 5), .ref (q 7), .int (Z 0 7), .int (Z 0 8), .int (Z 0 9), .int (Z 0 10), .int (Z 0 11), .ref (q 13), .int (Z 0 13), .ref (q 15), .long gg_5])), (q 2, .inl (T 0, 267, .inl (Z 2))), (q 3, .inl (T 0, 1602, .inl (Z 3))), (q 5, .inl (T 0, 267, .inl (Z 5))), (q 7, .inl (T 0, 60, .inl (Z 7))), (q 13, .inl (T 0, 8, .inl (Z 13))), (q 15, .inl (T 0, 3, .inl (Z 15)))] H) (hD : va_D A [(q 0, .inr (8, [.int (Z 0 0), .ref (q 2), .ref (q 3), .int (Z 0 3), .ref (q 5), .int (Z 0 5), .ref (q 7), .int (Z 0 7), .int (Z 0 8), .int (Z 0 9), .int (Z 0 10), .int (Z 0 11), .ref (q 13), .int (Z 0 13), .ref (q 15), .long gg_5])), (q 2, .inl (T 0, 267, .inl (Z 2))), (q 3, .inl (T 0, 1602, .inl (Z 3))), (q 5, .inl (T 0, 267, .inl (Z 5))), (q 7, .inl (T 0, 60, .inl (Z 7))), (q 13, .inl (T 0, 8, .inl (Z 13))), (q 15, .inl (T 0, 3, .inl (Z 15)))]) (hS : va_S A s.heap H locs) (ls : Array Slot) (hl : lv_has ls 3 [(2, .int x2), (0, .ref (q 0)), (1, .int (nI mm))]), W p l e (headSpec wsX8_mixMessage (rmD 6 0 0)).room s m args below meth c H locs 0 0 Q0 (F0 m 26 ls []) := by
          intro n9
          induction n9 with
          | zero => intros; omega
          | succ n9 ih26 =>
            intro k hk1 hk2 x2 gg_5 hx2 hgg_5 H locs hP hD hS ls hl
            subst hx2 hgg_5
            refine lv_iload_n hx hb dX8_mixMessage_26 rfl (lv_at hl 0 rfl) ?_
            refine lv_bipush (v := nI 8) hx hb dX8_mixMessage_27 (by decide) ?_
            refine n_icmp_ge (a := k) (b := 8) (tgt := 49) hx hb (by omega) (by decide) dX8_mixMessage_29 (by decide) (fun c_6 => ?_) (fun c_7 => ?_)
            · skip
              obtain rfl : k = 8 := (by omega)
              refine lv_aload_n hx hb dX8_mixMessage_49 rfl (lv_at hl 1 rfl) ?_
              refine lv_aload_n hx hb dX8_mixMessage_50 rfl (lv_at hl 1 rfl) ?_
              refine lv_iload_n hx hb dX8_mixMessage_51 rfl (lv_at hl 2 rfl) ?_
              refine k_roV (As := [.int (nI mm)]) (rest := [.ref (q 0)]) (wc := oX8 T q Z (mxM2 Z mm g 8)) (d := 4) (v := (mFr Z mm 6).1) cx (c_X8_findRoom l G T A q Z (mxM2 Z mm g 8) mm (by omega)) (cwV 1 hts gX8_mixMessage_X8_findRoom rfl rfl rfl (by decide +kernel) ⟨Nat.le_of_ble_eq_true rfl, Nat.le_of_ble_eq_true rfl⟩) hP hK (hE.kept hS.2.1) (va_recv hK hP (ci := 8) (q0 := 0) rfl rfl) rfl hl.1 rfl (Nat.le_of_ble_eq_true rfl) dX8_mixMessage_52 ⟨Nat.le_of_ble_eq_true rfl, Nat.le_of_ble_eq_true rfl⟩ ?_
              refine lv_i2l (v := (mFr Z mm 6).1.toInt64) hx hb dX8_mixMessage_55 rfl ?_
              refine k_rvV (As := [.long ((mFr Z mm 6).1.toInt64)]) (rest := []) (wc := oX8 T q Z (mxM2 Z mm g 8)) (wr := []) (w1 := oX8 T q Z (dMx (mxM2 Z mm g 8) ((mFr Z mm 6).1.toInt64))) (d := 0) (mc := 0) (ms := 0) (isC := [0, 1, 2, 3, 4, 5, 6]) (isR := []) cx (c_X8_mix l G T H.size q Z (mxM2 Z mm g 8) ((mFr Z mm 6).1.toInt64) ) (cwV 1 hts gX8_mixMessage_X8_mix rfl rfl rfl (by decide +kernel) ⟨Nat.le_of_ble_eq_true rfl, Nat.le_of_ble_eq_true rfl⟩) ⟨hP, hD, hS, hA, hE, hK, rfl, rfl, rfl, rfl, by decide⟩ (va_recv hK hP (ci := 8) (q0 := 0) rfl rfl) rfl hl.1 rfl (Nat.le_of_ble_eq_true rfl) dX8_mixMessage_56 ⟨Nat.le_of_ble_eq_true rfl, Nat.le_of_ble_eq_true rfl⟩ (fun H locs hP hD hS hz => ?_)
              have hP : va_P G vwCl [(q 0, .inr (8, [.int (Z 0 0), .ref (q 2), .ref (q 3), .int (Z 0 3), .ref (q 5), .int (Z 0 5), .ref (q 7), .int (Z 0 7), .int (Z 0 8), .int (Z 0 9), .int (Z 0 10), .int (Z 0 11), .ref (q 13), .int (Z 0 13), .ref (q 15), .long (dMx (mxM2 Z mm g 8) ((mFr Z mm 6).1.toInt64))])), (q 2, .inl (T 0, 267, .inl (Z 2))), (q 3, .inl (T 0, 1602, .inl (Z 3))), (q 5, .inl (T 0, 267, .inl (Z 5))), (q 7, .inl (T 0, 60, .inl (Z 7))), (q 13, .inl (T 0, 8, .inl (Z 13))), (q 15, .inl (T 0, 3, .inl (Z 15)))] H := hP
              have hD : va_D A [(q 0, .inr (8, [.int (Z 0 0), .ref (q 2), .ref (q 3), .int (Z 0 3), .ref (q 5), .int (Z 0 5), .ref (q 7), .int (Z 0 7), .int (Z 0 8), .int (Z 0 9), .int (Z 0 10), .int (Z 0 11), .ref (q 13), .int (Z 0 13), .ref (q 15), .long (dMx (mxM2 Z mm g 8) ((mFr Z mm 6).1.toInt64))])), (q 2, .inl (T 0, 267, .inl (Z 2))), (q 3, .inl (T 0, 1602, .inl (Z 3))), (q 5, .inl (T 0, 267, .inl (Z 5))), (q 7, .inl (T 0, 60, .inl (Z 7))), (q 13, .inl (T 0, 8, .inl (Z 13))), (q 15, .inl (T 0, 3, .inl (Z 15)))] := hD
              subst hQ
              have e_8 : dMx (mxM2 Z mm g 8) ((mFr Z mm 6).1.toInt64) = mxM Z mm g := rfl
              rw [e_8] at hP hD
              have hP9 : va_P G vwCl (oX8 T q Z (mxM Z mm g)) H := hP
              have hD9 : va_D A (oX8 T q Z (mxM Z mm g)) := hD
              exact e_rwv hx hb hr hlocks hS hP9 hD9 dX8_mixMessage_59
            · skip
              refine lv_aload_n hx hb dX8_mixMessage_32 rfl (lv_at hl 1 rfl) ?_
              refine lv_aload_n hx hb dX8_mixMessage_33 rfl (lv_at hl 1 rfl) ?_
              refine lv_iload_n hx hb dX8_mixMessage_34 rfl (lv_at hl 2 rfl) ?_
              refine lv_iload_n hx hb dX8_mixMessage_35 rfl (lv_at hl 0 rfl) ?_
              refine k_roV (As := [.int (nI mm), .int (nI k)]) (rest := [.ref (q 0)]) (wc := oX8 T q Z (mxM2 Z mm g k)) (d := 1) (v := mTN Z mm k) cx (c_X8_tellsNote l G T A q Z (mxM2 Z mm g k) mm k (by omega) (by omega)) (cwV 2 hts gX8_mixMessage_X8_tellsNote rfl rfl rfl (by decide +kernel) ⟨Nat.le_of_ble_eq_true rfl, Nat.le_of_ble_eq_true rfl⟩) hP hK (hE.kept hS.2.1) (va_recv hK hP (ci := 8) (q0 := 0) rfl rfl) rfl hl.1 rfl (Nat.le_of_ble_eq_true rfl) dX8_mixMessage_36 ⟨Nat.le_of_ble_eq_true rfl, Nat.le_of_ble_eq_true rfl⟩ ?_
              refine lv_i2l (v := (mTN Z mm k).toInt64) hx hb dX8_mixMessage_39 rfl ?_
              refine k_rvV (As := [.long ((mTN Z mm k).toInt64)]) (rest := []) (wc := oX8 T q Z (mxM2 Z mm g k)) (wr := []) (w1 := oX8 T q Z (dMx (mxM2 Z mm g k) ((mTN Z mm k).toInt64))) (d := 0) (mc := 0) (ms := 0) (isC := [0, 1, 2, 3, 4, 5, 6]) (isR := []) cx (c_X8_mix l G T H.size q Z (mxM2 Z mm g k) ((mTN Z mm k).toInt64) ) (cwV 1 hts gX8_mixMessage_X8_mix rfl rfl rfl (by decide +kernel) ⟨Nat.le_of_ble_eq_true rfl, Nat.le_of_ble_eq_true rfl⟩) ⟨hP, hD, hS, hA, hE, hK, rfl, rfl, rfl, rfl, by decide⟩ (va_recv hK hP (ci := 8) (q0 := 0) rfl rfl) rfl hl.1 rfl (Nat.le_of_ble_eq_true rfl) dX8_mixMessage_40 ⟨Nat.le_of_ble_eq_true rfl, Nat.le_of_ble_eq_true rfl⟩ (fun H locs hP hD hS hz => ?_)
              have hP : va_P G vwCl [(q 0, .inr (8, [.int (Z 0 0), .ref (q 2), .ref (q 3), .int (Z 0 3), .ref (q 5), .int (Z 0 5), .ref (q 7), .int (Z 0 7), .int (Z 0 8), .int (Z 0 9), .int (Z 0 10), .int (Z 0 11), .ref (q 13), .int (Z 0 13), .ref (q 15), .long (dMx (mxM2 Z mm g k) ((mTN Z mm k).toInt64))])), (q 2, .inl (T 0, 267, .inl (Z 2))), (q 3, .inl (T 0, 1602, .inl (Z 3))), (q 5, .inl (T 0, 267, .inl (Z 5))), (q 7, .inl (T 0, 60, .inl (Z 7))), (q 13, .inl (T 0, 8, .inl (Z 13))), (q 15, .inl (T 0, 3, .inl (Z 15)))] H := hP
              have hD : va_D A [(q 0, .inr (8, [.int (Z 0 0), .ref (q 2), .ref (q 3), .int (Z 0 3), .ref (q 5), .int (Z 0 5), .ref (q 7), .int (Z 0 7), .int (Z 0 8), .int (Z 0 9), .int (Z 0 10), .int (Z 0 11), .ref (q 13), .int (Z 0 13), .ref (q 15), .long (dMx (mxM2 Z mm g k) ((mTN Z mm k).toInt64))])), (q 2, .inl (T 0, 267, .inl (Z 2))), (q 3, .inl (T 0, 1602, .inl (Z 3))), (q 5, .inl (T 0, 267, .inl (Z 5))), (q 7, .inl (T 0, 60, .inl (Z 7))), (q 13, .inl (T 0, 8, .inl (Z 13))), (q 15, .inl (T 0, 3, .inl (Z 15)))] := hD
              refine lv_iinc (v := nI (k + 1)) (lv' := [(2, .int (nI (k + 1))), (0, .ref (q 0)), (1, .int (nI mm))]) hx hb dX8_mixMessage_43 hl (k := 0) rfl (n_inc k 1 rfl) (by decide) rfl (fun ls hl => ?_)
              refine lv_goto (tgt := 26) hx hb dX8_mixMessage_46 (by decide) ?_
              have e_9 : (dMx (mxM2 Z mm g k) ((mTN Z mm k).toInt64)) = mxM2 Z mm g (k + 1) := rfl
              exact ih26 (k + 1) (by omega) (by omega) _ _ rfl e_9 _ _ hP hD hS _ (lv_sub hl [0, 1, 2] rfl)
        exact L26_i_4 (8 + 1) 0 (by omega) (by omega) _ _ rfl rfl _ _ hP hD hS _ (lv_sub hl [0, 1, 2] rfl)
      · skip
        refine lv_aload_n hx hb dX8_mixMessage_7 rfl (lv_at hl 1 rfl) ?_
        refine lv_aload_n hx hb dX8_mixMessage_8 rfl (lv_at hl 1 rfl) ?_
        refine lv_iload_n hx hb dX8_mixMessage_9 rfl (lv_at hl 2 rfl) ?_
        refine lv_iload_n hx hb dX8_mixMessage_10 rfl (lv_at hl 0 rfl) ?_
        refine k_roV (As := [.int (nI mm), .int (nI k)]) (rest := [.ref (q 0)]) (wc := oX8 T q Z (mxM1 Z mm g k)) (d := 1) (v := mTM Z mm k) cx (c_X8_tellsMessage l G T A q Z (mxM1 Z mm g k) mm k (by omega) (by omega)) (cwV 2 hts gX8_mixMessage_X8_tellsMessage rfl rfl rfl (by decide +kernel) ⟨Nat.le_of_ble_eq_true rfl, Nat.le_of_ble_eq_true rfl⟩) hP hK (hE.kept hS.2.1) (va_recv hK hP (ci := 8) (q0 := 0) rfl rfl) rfl hl.1 rfl (Nat.le_of_ble_eq_true rfl) dX8_mixMessage_11 ⟨Nat.le_of_ble_eq_true rfl, Nat.le_of_ble_eq_true rfl⟩ ?_
        refine lv_i2l (v := (mTM Z mm k).toInt64) hx hb dX8_mixMessage_14 rfl ?_
        refine k_rvV (As := [.long ((mTM Z mm k).toInt64)]) (rest := []) (wc := oX8 T q Z (mxM1 Z mm g k)) (wr := []) (w1 := oX8 T q Z (dMx (mxM1 Z mm g k) ((mTM Z mm k).toInt64))) (d := 0) (mc := 0) (ms := 0) (isC := [0, 1, 2, 3, 4, 5, 6]) (isR := []) cx (c_X8_mix l G T H.size q Z (mxM1 Z mm g k) ((mTM Z mm k).toInt64) ) (cwV 1 hts gX8_mixMessage_X8_mix rfl rfl rfl (by decide +kernel) ⟨Nat.le_of_ble_eq_true rfl, Nat.le_of_ble_eq_true rfl⟩) ⟨hP, hD, hS, hA, hE, hK, rfl, rfl, rfl, rfl, by decide⟩ (va_recv hK hP (ci := 8) (q0 := 0) rfl rfl) rfl hl.1 rfl (Nat.le_of_ble_eq_true rfl) dX8_mixMessage_15 ⟨Nat.le_of_ble_eq_true rfl, Nat.le_of_ble_eq_true rfl⟩ (fun H locs hP hD hS hz => ?_)
        have hP : va_P G vwCl [(q 0, .inr (8, [.int (Z 0 0), .ref (q 2), .ref (q 3), .int (Z 0 3), .ref (q 5), .int (Z 0 5), .ref (q 7), .int (Z 0 7), .int (Z 0 8), .int (Z 0 9), .int (Z 0 10), .int (Z 0 11), .ref (q 13), .int (Z 0 13), .ref (q 15), .long (dMx (mxM1 Z mm g k) ((mTM Z mm k).toInt64))])), (q 2, .inl (T 0, 267, .inl (Z 2))), (q 3, .inl (T 0, 1602, .inl (Z 3))), (q 5, .inl (T 0, 267, .inl (Z 5))), (q 7, .inl (T 0, 60, .inl (Z 7))), (q 13, .inl (T 0, 8, .inl (Z 13))), (q 15, .inl (T 0, 3, .inl (Z 15)))] H := hP
        have hD : va_D A [(q 0, .inr (8, [.int (Z 0 0), .ref (q 2), .ref (q 3), .int (Z 0 3), .ref (q 5), .int (Z 0 5), .ref (q 7), .int (Z 0 7), .int (Z 0 8), .int (Z 0 9), .int (Z 0 10), .int (Z 0 11), .ref (q 13), .int (Z 0 13), .ref (q 15), .long (dMx (mxM1 Z mm g k) ((mTM Z mm k).toInt64))])), (q 2, .inl (T 0, 267, .inl (Z 2))), (q 3, .inl (T 0, 1602, .inl (Z 3))), (q 5, .inl (T 0, 267, .inl (Z 5))), (q 7, .inl (T 0, 60, .inl (Z 7))), (q 13, .inl (T 0, 8, .inl (Z 13))), (q 15, .inl (T 0, 3, .inl (Z 15)))] := hD
        refine lv_iinc (v := nI (k + 1)) (lv' := [(2, .int (nI (k + 1))), (0, .ref (q 0)), (1, .int (nI mm))]) hx hb dX8_mixMessage_18 hl (k := 0) rfl (n_inc k 1 rfl) (by decide) rfl (fun ls hl => ?_)
        refine lv_goto (tgt := 2) hx hb dX8_mixMessage_21 (by decide) ?_
        have e_10 : (dMx (mxM1 Z mm g k) ((mTM Z mm k).toInt64)) = mxM1 Z mm g (k + 1) := rfl
        exact ih2 (k + 1) (by omega) (by omega) _ _ rfl e_10 _ _ hP hD hS _ (lv_sub hl [0, 1, 2] rfl)
  exact L2 (4 + 1) 0 (by omega) (by omega) _ _ rfl rfl _ _ hP hD hS _ (lv_sub hl [0, 1, 2] rfl)
set_option maxHeartbeats 4000000 in
set_option maxRecDepth 100000 in
theorem c_X8_mixRoom (l : Launch) (G : va_G) (T : Nat → ClassId) (sz : Nat) (q : Nat → Nat) (Z : Nat → Nat → Int32) (g : Int64) (r : Nat) (hr6 : r < 6) : RWv l yX8_mixRoom wsX8_mixRoom 6 0 0 G T sz (oX8 T q Z g) [.ref (q 0), .int (nI r)] (oX8 T q Z (mxR Z r g)) := by
  refine Met.ofW (cc := cX8_mixRoom) (maxL := 3) (ret := none) (by decide) rfl ?_
  intro p e s m args below meth c s₁ B hml hv
  obtain ⟨ha, hsz, hP, hK, hD0, hE0⟩ := hv
  have hx := B.exec
  have hb := B.bytes
  have hr := B.returns
  have hlocks := B.notSynchronized
  have hts := atoms_spec (ws := wsX8_mixRoom) B.pre
  have hown : s.vm.findClass RX8 = some m.cls := findClass_of_methodNamed B.named
  have cx : CallFix p m c cX8_mixRoom 3 s args wsX8_mixRoom RX8 := ⟨hx, hb, hml, hown, hts⟩
  subst hsz
  have hD := hD0.self (sz := s.heap.size)
  generalize hAe : va_A (oX8 T q Z g) s.heap.size = A at hD hE0 ⊢
  have hE : gE A s s.heap := hE0
  have hA : ∀ q : Nat, s.heap.size ≤ q → A q := fun q h => by rw [← hAe]; exact Or.inr h
  have hS : va_S A s.heap s.heap [] := va_S.rf
  refine w_entry ha (Nat.le_of_ble_eq_true rfl) (fun ls hl => ?_)
  refine w_q (fun Q0 hQ => ?_)
  have hl : lv_has ls 3 [(0, .ref (q 0)), (1, .int (nI r))] := hl
  have hP : va_P G vwCl [(q 0, .inr (8, [.int (Z 0 0), .ref (q 2), .ref (q 3), .int (Z 0 3), .ref (q 5), .int (Z 0 5), .ref (q 7), .int (Z 0 7), .int (Z 0 8), .int (Z 0 9), .int (Z 0 10), .int (Z 0 11), .ref (q 13), .int (Z 0 13), .ref (q 15), .long g])), (q 2, .inl (T 0, 267, .inl (Z 2))), (q 3, .inl (T 0, 1602, .inl (Z 3))), (q 5, .inl (T 0, 267, .inl (Z 5))), (q 7, .inl (T 0, 60, .inl (Z 7))), (q 13, .inl (T 0, 8, .inl (Z 13))), (q 15, .inl (T 0, 3, .inl (Z 15)))] s.heap := hP
  have hD : va_D A [(q 0, .inr (8, [.int (Z 0 0), .ref (q 2), .ref (q 3), .int (Z 0 3), .ref (q 5), .int (Z 0 5), .ref (q 7), .int (Z 0 7), .int (Z 0 8), .int (Z 0 9), .int (Z 0 10), .int (Z 0 11), .ref (q 13), .int (Z 0 13), .ref (q 15), .long g])), (q 2, .inl (T 0, 267, .inl (Z 2))), (q 3, .inl (T 0, 1602, .inl (Z 3))), (q 5, .inl (T 0, 267, .inl (Z 5))), (q 7, .inl (T 0, 60, .inl (Z 7))), (q 13, .inl (T 0, 8, .inl (Z 13))), (q 15, .inl (T 0, 3, .inl (Z 15)))] := hD
  skip
  refine w_h (fun H locs hHe hLe => ?_)
  have hP : va_P G vwCl [(q 0, .inr (8, [.int (Z 0 0), .ref (q 2), .ref (q 3), .int (Z 0 3), .ref (q 5), .int (Z 0 5), .ref (q 7), .int (Z 0 7), .int (Z 0 8), .int (Z 0 9), .int (Z 0 10), .int (Z 0 11), .ref (q 13), .int (Z 0 13), .ref (q 15), .long g])), (q 2, .inl (T 0, 267, .inl (Z 2))), (q 3, .inl (T 0, 1602, .inl (Z 3))), (q 5, .inl (T 0, 267, .inl (Z 5))), (q 7, .inl (T 0, 60, .inl (Z 7))), (q 13, .inl (T 0, 8, .inl (Z 13))), (q 15, .inl (T 0, 3, .inl (Z 15)))] H := by rw [hHe]; exact hP
  have hS : va_S A s.heap H locs := by rw [hHe, hLe]; exact hS
  refine n_iconst hx hb 0 dX8_mixRoom_0 (by decide) ?_
  refine lv_istore_n (lv' := [(2, .int (nI 0)), (0, .ref (q 0)), (1, .int (nI r))]) hx hb dX8_mixRoom_1 rfl hl (by decide) rfl (fun ls hl => ?_)
  have L2 : ∀ (n9 k : Nat) (hk1 : k ≤ 6) (hk2 : 6 - k < n9) (x2 : Int32) (gg_1 : Int64) (hx2 : x2 = nI k) (hgg_1 : gg_1 = mxR1 Z r g k) (H : Heap) (locs : List Loc) (hP : va_P G vwCl [(q 0, .inr (8, [.int (Z 0 0), .ref (q 2), .ref (q 3), .int (Z 0 3), .ref (q 5), .int (Z 0 5), .ref (q 7), .int (Z 0 7), .int (Z 0 8), .int (Z 0 9), .int (Z 0 10), .int (Z 0 11), .ref (q 13), .int (Z 0 13), .ref (q 15), .long gg_1])), (q 2, .inl (T 0, 267, .inl (Z 2))), (q 3, .inl (T 0, 1602, .inl (Z 3))), (q 5, .inl (T 0, 267, .inl (Z 5))), (q 7, .inl (T 0, 60, .inl (Z 7))), (q 13, .inl (T 0, 8, .inl (Z 13))), (q 15, .inl (T 0, 3, .inl (Z 15)))] H) (hD : va_D A [(q 0, .inr (8, [.int (Z 0 0), .ref (q 2), .ref (q 3), .int (Z 0 3), .ref (q 5), .int (Z 0 5), .ref (q 7), .int (Z 0 7), .int (Z 0 8), .int (Z 0 9), .int (Z 0 10), .int (Z 0 11), .ref (q 13), .int (Z 0 13), .ref (q 15), .long gg_1])), (q 2, .inl (T 0, 267, .inl (Z 2))), (q 3, .inl (T 0, 1602, .inl (Z 3))), (q 5, .inl (T 0, 267, .inl (Z 5))), (q 7, .inl (T 0, 60, .inl (Z 7))), (q 13, .inl (T 0, 8, .inl (Z 13))), (q 15, .inl (T 0, 3, .inl (Z 15)))]) (hS : va_S A s.heap H locs) (ls : Array Slot) (hl : lv_has ls 3 [(2, .int x2), (0, .ref (q 0)), (1, .int (nI r))]), W p l e (headSpec wsX8_mixRoom (rmD 6 0 0)).room s m args below meth c H locs 0 0 Q0 (F0 m 2 ls []) := by
    intro n9
    induction n9 with
    | zero => intros; omega
    | succ n9 ih2 =>
      intro k hk1 hk2 x2 gg_1 hx2 hgg_1 H locs hP hD hS ls hl
      subst hx2 hgg_1
      refine lv_iload_n hx hb dX8_mixRoom_2 rfl (lv_at hl 0 rfl) ?_
      refine lv_bipush (v := nI 6) hx hb dX8_mixRoom_3 (by decide) ?_
      refine n_icmp_ge (a := k) (b := 6) (tgt := 25) hx hb (by omega) (by decide) dX8_mixRoom_5 (by decide) (fun c_2 => ?_) (fun c_3 => ?_)
      · skip
        obtain rfl : k = 6 := (by omega)
        refine lv_aload_n hx hb dX8_mixRoom_25 rfl (lv_at hl 1 rfl) ?_
        refine lv_aload_n hx hb dX8_mixRoom_26 rfl (lv_at hl 1 rfl) ?_
        refine lv_iload_n hx hb dX8_mixRoom_27 rfl (lv_at hl 2 rfl) ?_
        refine n_iconst hx hb 0 dX8_mixRoom_28 (by decide) ?_
        refine k_roV (As := [.int (nI r), .int (nI 0)]) (rest := [.ref (q 0)]) (wc := oX8 T q Z (mxR1 Z r g 6)) (d := 2) (v := mWy Z r 0) cx (c_X8_whyNotWhistled l G T A q Z (mxR1 Z r g 6) r 0 (by omega) (by omega)) (cwV 2 hts gX8_mixRoom_X8_whyNotWhistled rfl rfl rfl (by decide +kernel) ⟨Nat.le_of_ble_eq_true rfl, Nat.le_of_ble_eq_true rfl⟩) hP hK (hE.kept hS.2.1) (va_recv hK hP (ci := 8) (q0 := 0) rfl rfl) rfl hl.1 rfl (Nat.le_of_ble_eq_true rfl) dX8_mixRoom_29 ⟨Nat.le_of_ble_eq_true rfl, Nat.le_of_ble_eq_true rfl⟩ ?_
        refine lv_i2l (v := (mWy Z r 0).toInt64) hx hb dX8_mixRoom_32 rfl ?_
        refine k_rvV (As := [.long ((mWy Z r 0).toInt64)]) (rest := []) (wc := oX8 T q Z (mxR1 Z r g 6)) (wr := []) (w1 := oX8 T q Z (dMx (mxR1 Z r g 6) ((mWy Z r 0).toInt64))) (d := 0) (mc := 0) (ms := 0) (isC := [0, 1, 2, 3, 4, 5, 6]) (isR := []) cx (c_X8_mix l G T H.size q Z (mxR1 Z r g 6) ((mWy Z r 0).toInt64) ) (cwV 1 hts gX8_mixRoom_X8_mix rfl rfl rfl (by decide +kernel) ⟨Nat.le_of_ble_eq_true rfl, Nat.le_of_ble_eq_true rfl⟩) ⟨hP, hD, hS, hA, hE, hK, rfl, rfl, rfl, rfl, by decide⟩ (va_recv hK hP (ci := 8) (q0 := 0) rfl rfl) rfl hl.1 rfl (Nat.le_of_ble_eq_true rfl) dX8_mixRoom_33 ⟨Nat.le_of_ble_eq_true rfl, Nat.le_of_ble_eq_true rfl⟩ (fun H locs hP hD hS hz => ?_)
        have hP : va_P G vwCl [(q 0, .inr (8, [.int (Z 0 0), .ref (q 2), .ref (q 3), .int (Z 0 3), .ref (q 5), .int (Z 0 5), .ref (q 7), .int (Z 0 7), .int (Z 0 8), .int (Z 0 9), .int (Z 0 10), .int (Z 0 11), .ref (q 13), .int (Z 0 13), .ref (q 15), .long (dMx (mxR1 Z r g 6) ((mWy Z r 0).toInt64))])), (q 2, .inl (T 0, 267, .inl (Z 2))), (q 3, .inl (T 0, 1602, .inl (Z 3))), (q 5, .inl (T 0, 267, .inl (Z 5))), (q 7, .inl (T 0, 60, .inl (Z 7))), (q 13, .inl (T 0, 8, .inl (Z 13))), (q 15, .inl (T 0, 3, .inl (Z 15)))] H := hP
        have hD : va_D A [(q 0, .inr (8, [.int (Z 0 0), .ref (q 2), .ref (q 3), .int (Z 0 3), .ref (q 5), .int (Z 0 5), .ref (q 7), .int (Z 0 7), .int (Z 0 8), .int (Z 0 9), .int (Z 0 10), .int (Z 0 11), .ref (q 13), .int (Z 0 13), .ref (q 15), .long (dMx (mxR1 Z r g 6) ((mWy Z r 0).toInt64))])), (q 2, .inl (T 0, 267, .inl (Z 2))), (q 3, .inl (T 0, 1602, .inl (Z 3))), (q 5, .inl (T 0, 267, .inl (Z 5))), (q 7, .inl (T 0, 60, .inl (Z 7))), (q 13, .inl (T 0, 8, .inl (Z 13))), (q 15, .inl (T 0, 3, .inl (Z 15)))] := hD
        refine n_iconst hx hb 0 dX8_mixRoom_36 (by decide) ?_
        refine lv_istore_n (lv' := [(2, .int (nI 0)), (0, .ref (q 0)), (1, .int (nI r))]) hx hb dX8_mixRoom_37 rfl hl (by decide) rfl (fun ls hl => ?_)
        have L38_i_4 : ∀ (n9 k : Nat) (hk1 : k ≤ 4) (hk2 : 4 - k < n9) (x2 : Int32) (gg_5 : Int64) (hx2 : x2 = nI k) (hgg_5 : gg_5 = mxR2 Z r g k) (H : Heap) (locs : List Loc) (hP : va_P G vwCl [(q 0, .inr (8, [.int (Z 0 0), .ref (q 2), .ref (q 3), .int (Z 0 3), .ref (q 5), .int (Z 0 5), .ref (q 7), .int (Z 0 7), .int (Z 0 8), .int (Z 0 9), .int (Z 0 10), .int (Z 0 11), .ref (q 13), .int (Z 0 13), .ref (q 15), .long gg_5])), (q 2, .inl (T 0, 267, .inl (Z 2))), (q 3, .inl (T 0, 1602, .inl (Z 3))), (q 5, .inl (T 0, 267, .inl (Z 5))), (q 7, .inl (T 0, 60, .inl (Z 7))), (q 13, .inl (T 0, 8, .inl (Z 13))), (q 15, .inl (T 0, 3, .inl (Z 15)))] H) (hD : va_D A [(q 0, .inr (8, [.int (Z 0 0), .ref (q 2), .ref (q 3), .int (Z 0 3), .ref (q 5), .int (Z 0 5), .ref (q 7), .int (Z 0 7), .int (Z 0 8), .int (Z 0 9), .int (Z 0 10), .int (Z 0 11), .ref (q 13), .int (Z 0 13), .ref (q 15), .long gg_5])), (q 2, .inl (T 0, 267, .inl (Z 2))), (q 3, .inl (T 0, 1602, .inl (Z 3))), (q 5, .inl (T 0, 267, .inl (Z 5))), (q 7, .inl (T 0, 60, .inl (Z 7))), (q 13, .inl (T 0, 8, .inl (Z 13))), (q 15, .inl (T 0, 3, .inl (Z 15)))]) (hS : va_S A s.heap H locs) (ls : Array Slot) (hl : lv_has ls 3 [(2, .int x2), (0, .ref (q 0)), (1, .int (nI r))]), W p l e (headSpec wsX8_mixRoom (rmD 6 0 0)).room s m args below meth c H locs 0 0 Q0 (F0 m 38 ls []) := by
          intro n9
          induction n9 with
          | zero => intros; omega
          | succ n9 ih38 =>
            intro k hk1 hk2 x2 gg_5 hx2 hgg_5 H locs hP hD hS ls hl
            subst hx2 hgg_5
            refine lv_iload_n hx hb dX8_mixRoom_38 rfl (lv_at hl 0 rfl) ?_
            refine n_iconst hx hb 4 dX8_mixRoom_39 (by decide) ?_
            refine n_icmp_ge (a := k) (b := 4) (tgt := 62) hx hb (by omega) (by decide) dX8_mixRoom_40 (by decide) (fun c_6 => ?_) (fun c_7 => ?_)
            · skip
              obtain rfl : k = 4 := (by omega)
              subst hQ
              have e_8 : mxR2 Z r g 4 = mxR Z r g := rfl
              rw [e_8] at hP hD
              have hP9 : va_P G vwCl (oX8 T q Z (mxR Z r g)) H := hP
              have hD9 : va_D A (oX8 T q Z (mxR Z r g)) := hD
              exact e_rwv hx hb hr hlocks hS hP9 hD9 dX8_mixRoom_62
            · skip
              refine lv_aload_n hx hb dX8_mixRoom_43 rfl (lv_at hl 1 rfl) ?_
              refine lv_aload_n hx hb dX8_mixRoom_44 rfl (lv_at hl 1 rfl) ?_
              refine lv_iload_n hx hb dX8_mixRoom_45 rfl (lv_at hl 2 rfl) ?_
              refine lv_bipush (v := nI 12) hx hb dX8_mixRoom_46 (by decide) ?_
              refine lv_iload_n hx hb dX8_mixRoom_48 rfl (lv_at hl 0 rfl) ?_
              refine k_roV (As := [.int (nI r), .int (nI 12), .int (nI k)]) (rest := [.ref (q 0)]) (wc := oX8 T q Z (mxR2 Z r g k)) (d := 5) (v := mWB Z r 12 k) cx (c_X8_wouldBring l G T A q Z (mxR2 Z r g k) r 12 k (by omega) (by omega) (by omega)) (cwV 3 hts gX8_mixRoom_X8_wouldBring rfl rfl rfl (by decide +kernel) ⟨Nat.le_of_ble_eq_true rfl, Nat.le_of_ble_eq_true rfl⟩) hP hK (hE.kept hS.2.1) (va_recv hK hP (ci := 8) (q0 := 0) rfl rfl) rfl hl.1 rfl (Nat.le_of_ble_eq_true rfl) dX8_mixRoom_49 ⟨Nat.le_of_ble_eq_true rfl, Nat.le_of_ble_eq_true rfl⟩ ?_
              refine lv_i2l (v := (mWB Z r 12 k).toInt64) hx hb dX8_mixRoom_52 rfl ?_
              refine k_rvV (As := [.long ((mWB Z r 12 k).toInt64)]) (rest := []) (wc := oX8 T q Z (mxR2 Z r g k)) (wr := []) (w1 := oX8 T q Z (dMx (mxR2 Z r g k) ((mWB Z r 12 k).toInt64))) (d := 0) (mc := 0) (ms := 0) (isC := [0, 1, 2, 3, 4, 5, 6]) (isR := []) cx (c_X8_mix l G T H.size q Z (mxR2 Z r g k) ((mWB Z r 12 k).toInt64) ) (cwV 1 hts gX8_mixRoom_X8_mix rfl rfl rfl (by decide +kernel) ⟨Nat.le_of_ble_eq_true rfl, Nat.le_of_ble_eq_true rfl⟩) ⟨hP, hD, hS, hA, hE, hK, rfl, rfl, rfl, rfl, by decide⟩ (va_recv hK hP (ci := 8) (q0 := 0) rfl rfl) rfl hl.1 rfl (Nat.le_of_ble_eq_true rfl) dX8_mixRoom_53 ⟨Nat.le_of_ble_eq_true rfl, Nat.le_of_ble_eq_true rfl⟩ (fun H locs hP hD hS hz => ?_)
              have hP : va_P G vwCl [(q 0, .inr (8, [.int (Z 0 0), .ref (q 2), .ref (q 3), .int (Z 0 3), .ref (q 5), .int (Z 0 5), .ref (q 7), .int (Z 0 7), .int (Z 0 8), .int (Z 0 9), .int (Z 0 10), .int (Z 0 11), .ref (q 13), .int (Z 0 13), .ref (q 15), .long (dMx (mxR2 Z r g k) ((mWB Z r 12 k).toInt64))])), (q 2, .inl (T 0, 267, .inl (Z 2))), (q 3, .inl (T 0, 1602, .inl (Z 3))), (q 5, .inl (T 0, 267, .inl (Z 5))), (q 7, .inl (T 0, 60, .inl (Z 7))), (q 13, .inl (T 0, 8, .inl (Z 13))), (q 15, .inl (T 0, 3, .inl (Z 15)))] H := hP
              have hD : va_D A [(q 0, .inr (8, [.int (Z 0 0), .ref (q 2), .ref (q 3), .int (Z 0 3), .ref (q 5), .int (Z 0 5), .ref (q 7), .int (Z 0 7), .int (Z 0 8), .int (Z 0 9), .int (Z 0 10), .int (Z 0 11), .ref (q 13), .int (Z 0 13), .ref (q 15), .long (dMx (mxR2 Z r g k) ((mWB Z r 12 k).toInt64))])), (q 2, .inl (T 0, 267, .inl (Z 2))), (q 3, .inl (T 0, 1602, .inl (Z 3))), (q 5, .inl (T 0, 267, .inl (Z 5))), (q 7, .inl (T 0, 60, .inl (Z 7))), (q 13, .inl (T 0, 8, .inl (Z 13))), (q 15, .inl (T 0, 3, .inl (Z 15)))] := hD
              refine lv_iinc (v := nI (k + 1)) (lv' := [(2, .int (nI (k + 1))), (0, .ref (q 0)), (1, .int (nI r))]) hx hb dX8_mixRoom_56 hl (k := 0) rfl (n_inc k 1 rfl) (by decide) rfl (fun ls hl => ?_)
              refine lv_goto (tgt := 38) hx hb dX8_mixRoom_59 (by decide) ?_
              have e_9 : (dMx (mxR2 Z r g k) ((mWB Z r 12 k).toInt64)) = mxR2 Z r g (k + 1) := rfl
              exact ih38 (k + 1) (by omega) (by omega) _ _ rfl e_9 _ _ hP hD hS _ (lv_sub hl [0, 1, 2] rfl)
        exact L38_i_4 (4 + 1) 0 (by omega) (by omega) _ _ rfl rfl _ _ hP hD hS _ (lv_sub hl [0, 1, 2] rfl)
      · skip
        refine lv_aload_n hx hb dX8_mixRoom_8 rfl (lv_at hl 1 rfl) ?_
        refine lv_aload_n hx hb dX8_mixRoom_9 rfl (lv_at hl 1 rfl) ?_
        refine lv_iload_n hx hb dX8_mixRoom_10 rfl (lv_at hl 2 rfl) ?_
        refine lv_iload_n hx hb dX8_mixRoom_11 rfl (lv_at hl 0 rfl) ?_
        refine k_roV (As := [.int (nI r), .int (nI k)]) (rest := [.ref (q 0)]) (wc := oX8 T q Z (mxR1 Z r g k)) (d := 2) (v := mTR Z r k) cx (c_X8_tellsRoom l G T A q Z (mxR1 Z r g k) r k (by omega) (by omega)) (cwV 2 hts gX8_mixRoom_X8_tellsRoom rfl rfl rfl (by decide +kernel) ⟨Nat.le_of_ble_eq_true rfl, Nat.le_of_ble_eq_true rfl⟩) hP hK (hE.kept hS.2.1) (va_recv hK hP (ci := 8) (q0 := 0) rfl rfl) rfl hl.1 rfl (Nat.le_of_ble_eq_true rfl) dX8_mixRoom_12 ⟨Nat.le_of_ble_eq_true rfl, Nat.le_of_ble_eq_true rfl⟩ ?_
        refine lv_i2l (v := (mTR Z r k).toInt64) hx hb dX8_mixRoom_15 rfl ?_
        refine k_rvV (As := [.long ((mTR Z r k).toInt64)]) (rest := []) (wc := oX8 T q Z (mxR1 Z r g k)) (wr := []) (w1 := oX8 T q Z (dMx (mxR1 Z r g k) ((mTR Z r k).toInt64))) (d := 0) (mc := 0) (ms := 0) (isC := [0, 1, 2, 3, 4, 5, 6]) (isR := []) cx (c_X8_mix l G T H.size q Z (mxR1 Z r g k) ((mTR Z r k).toInt64) ) (cwV 1 hts gX8_mixRoom_X8_mix rfl rfl rfl (by decide +kernel) ⟨Nat.le_of_ble_eq_true rfl, Nat.le_of_ble_eq_true rfl⟩) ⟨hP, hD, hS, hA, hE, hK, rfl, rfl, rfl, rfl, by decide⟩ (va_recv hK hP (ci := 8) (q0 := 0) rfl rfl) rfl hl.1 rfl (Nat.le_of_ble_eq_true rfl) dX8_mixRoom_16 ⟨Nat.le_of_ble_eq_true rfl, Nat.le_of_ble_eq_true rfl⟩ (fun H locs hP hD hS hz => ?_)
        have hP : va_P G vwCl [(q 0, .inr (8, [.int (Z 0 0), .ref (q 2), .ref (q 3), .int (Z 0 3), .ref (q 5), .int (Z 0 5), .ref (q 7), .int (Z 0 7), .int (Z 0 8), .int (Z 0 9), .int (Z 0 10), .int (Z 0 11), .ref (q 13), .int (Z 0 13), .ref (q 15), .long (dMx (mxR1 Z r g k) ((mTR Z r k).toInt64))])), (q 2, .inl (T 0, 267, .inl (Z 2))), (q 3, .inl (T 0, 1602, .inl (Z 3))), (q 5, .inl (T 0, 267, .inl (Z 5))), (q 7, .inl (T 0, 60, .inl (Z 7))), (q 13, .inl (T 0, 8, .inl (Z 13))), (q 15, .inl (T 0, 3, .inl (Z 15)))] H := hP
        have hD : va_D A [(q 0, .inr (8, [.int (Z 0 0), .ref (q 2), .ref (q 3), .int (Z 0 3), .ref (q 5), .int (Z 0 5), .ref (q 7), .int (Z 0 7), .int (Z 0 8), .int (Z 0 9), .int (Z 0 10), .int (Z 0 11), .ref (q 13), .int (Z 0 13), .ref (q 15), .long (dMx (mxR1 Z r g k) ((mTR Z r k).toInt64))])), (q 2, .inl (T 0, 267, .inl (Z 2))), (q 3, .inl (T 0, 1602, .inl (Z 3))), (q 5, .inl (T 0, 267, .inl (Z 5))), (q 7, .inl (T 0, 60, .inl (Z 7))), (q 13, .inl (T 0, 8, .inl (Z 13))), (q 15, .inl (T 0, 3, .inl (Z 15)))] := hD
        refine lv_iinc (v := nI (k + 1)) (lv' := [(2, .int (nI (k + 1))), (0, .ref (q 0)), (1, .int (nI r))]) hx hb dX8_mixRoom_19 hl (k := 0) rfl (n_inc k 1 rfl) (by decide) rfl (fun ls hl => ?_)
        refine lv_goto (tgt := 2) hx hb dX8_mixRoom_22 (by decide) ?_
        have e_10 : (dMx (mxR1 Z r g k) ((mTR Z r k).toInt64)) = mxR1 Z r g (k + 1) := rfl
        exact ih2 (k + 1) (by omega) (by omega) _ _ rfl e_10 _ _ hP hD hS _ (lv_sub hl [0, 1, 2] rfl)
  exact L2 (6 + 1) 0 (by omega) (by omega) _ _ rfl rfl _ _ hP hD hS _ (lv_sub hl [0, 1, 2] rfl)
set_option maxHeartbeats 4000000 in
set_option maxRecDepth 100000 in
theorem c_X8_digest (l : Launch) (G : va_G) (T : Nat → ClassId) (sz : Nat) (q : Nat → Nat) (Z : Nat → Nat → Int32) (g : Int64) (L : Nat) (ln : Nat → Nat) (hle : Z 0 7 = nI L) (hL60 : L ≤ 60) (hln : ∀ i : Nat, i < 20 → Z 2 (47 + 11 * i) = nI (ln i)) (hln8 : ∀ i : Nat, i < 20 → ln i ≤ 8) : RWl l yX8_digest wsX8_digest 7 0 0 G T sz (oX8 T q Z g) [.ref (q 0)] (mDg (sc Z 0 (nI 0)) ln L) (oX8 T q (sc Z 0 (nI 0)) (mDg (sc Z 0 (nI 0)) ln L)) := by
  refine Met.ofW (cc := cX8_digest) (maxL := 2) (ret := (some .long)) (by decide) rfl ?_
  intro p e s m args below meth c s₁ B hml hv
  obtain ⟨ha, hsz, hP, hK, hD0, hE0⟩ := hv
  have hx := B.exec
  have hb := B.bytes
  have hr := B.returns
  have hlocks := B.notSynchronized
  have hts := atoms_spec (ws := wsX8_digest) B.pre
  have hown : s.vm.findClass RX8 = some m.cls := findClass_of_methodNamed B.named
  have cx : CallFix p m c cX8_digest 2 s args wsX8_digest RX8 := ⟨hx, hb, hml, hown, hts⟩
  subst hsz
  have hD := hD0.self (sz := s.heap.size)
  generalize hAe : va_A (oX8 T q Z g) s.heap.size = A at hD hE0 ⊢
  have hE : gE A s s.heap := hE0
  have hA : ∀ q : Nat, s.heap.size ≤ q → A q := fun q h => by rw [← hAe]; exact Or.inr h
  have hS : va_S A s.heap s.heap [] := va_S.rf
  refine w_entry ha (Nat.le_of_ble_eq_true rfl) (fun ls hl => ?_)
  refine w_q (fun Q0 hQ => ?_)
  have lk28 := hts (.fieldLink RX8 28 "WhistleTunesModel" "thrown" "I") (by decide +kernel)
  have hinX8 : ∀ w ∈ wsX80, w ∈ wsX8_digest := by decide +kernel
  have lk245 := hts (.fieldLink RX8 245 "WhistleTunesModel" "hash" "J") (by decide +kernel)
  have lk53 := hts (.fieldLink RX8 53 "WhistleTunesModel" "length" "I") (by decide +kernel)
  have lk19 := hts (.fieldLink RX8 19 "WhistleTunesModel" "buffer" "[I") (by decide +kernel)
  have lk7 := hts (.fieldLink RX8 7 "WhistleTunesModel" "state" "[I") (by decide +kernel)
  have hl : lv_has ls 2 [(0, .ref (q 0))] := hl
  have hP : va_P G vwCl [(q 0, .inr (8, [.int (Z 0 0), .ref (q 2), .ref (q 3), .int (Z 0 3), .ref (q 5), .int (Z 0 5), .ref (q 7), .int (Z 0 7), .int (Z 0 8), .int (Z 0 9), .int (Z 0 10), .int (Z 0 11), .ref (q 13), .int (Z 0 13), .ref (q 15), .long g])), (q 2, .inl (T 0, 267, .inl (Z 2))), (q 3, .inl (T 0, 1602, .inl (Z 3))), (q 5, .inl (T 0, 267, .inl (Z 5))), (q 7, .inl (T 0, 60, .inl (Z 7))), (q 13, .inl (T 0, 8, .inl (Z 13))), (q 15, .inl (T 0, 3, .inl (Z 15)))] s.heap := hP
  have hD : va_D A [(q 0, .inr (8, [.int (Z 0 0), .ref (q 2), .ref (q 3), .int (Z 0 3), .ref (q 5), .int (Z 0 5), .ref (q 7), .int (Z 0 7), .int (Z 0 8), .int (Z 0 9), .int (Z 0 10), .int (Z 0 11), .ref (q 13), .int (Z 0 13), .ref (q 15), .long g])), (q 2, .inl (T 0, 267, .inl (Z 2))), (q 3, .inl (T 0, 1602, .inl (Z 3))), (q 5, .inl (T 0, 267, .inl (Z 5))), (q 7, .inl (T 0, 60, .inl (Z 7))), (q 13, .inl (T 0, 8, .inl (Z 13))), (q 15, .inl (T 0, 3, .inl (Z 15)))] := hD
  skip
  refine w_h (fun H locs hHe hLe => ?_)
  have hP : va_P G vwCl [(q 0, .inr (8, [.int (Z 0 0), .ref (q 2), .ref (q 3), .int (Z 0 3), .ref (q 5), .int (Z 0 5), .ref (q 7), .int (Z 0 7), .int (Z 0 8), .int (Z 0 9), .int (Z 0 10), .int (Z 0 11), .ref (q 13), .int (Z 0 13), .ref (q 15), .long g])), (q 2, .inl (T 0, 267, .inl (Z 2))), (q 3, .inl (T 0, 1602, .inl (Z 3))), (q 5, .inl (T 0, 267, .inl (Z 5))), (q 7, .inl (T 0, 60, .inl (Z 7))), (q 13, .inl (T 0, 8, .inl (Z 13))), (q 15, .inl (T 0, 3, .inl (Z 15)))] H := by rw [hHe]; exact hP
  have hS : va_S A s.heap H locs := by rw [hHe, hLe]; exact hS
  refine lv_aload_n hx hb dX8_digest_0 rfl (lv_at hl 0 rfl) ?_
  refine n_iconst hx hb 0 dX8_digest_1 (by decide) ?_
  refine va_put (D := G) (ci := 8) (v := .int (nI 0)) (ty := .int) (C := RX8) (T := TX8) (N := 16) hx hb hts hinX8 tyX8 tyX8_ok nmX8 hown hK hP hD hS 0 rfl rfl 0 (by decide) lk28 (fun _ h9 => h9) rfl (by decide +kernel) rfl rfl (Nat.le_of_ble_eq_true rfl) dX8_digest_2 (fun H locs hP hD hS => ?_)
  have hP : va_P G vwCl [(q 0, .inr (8, [.int (nI 0), .ref (q 2), .ref (q 3), .int (Z 0 3), .ref (q 5), .int (Z 0 5), .ref (q 7), .int (Z 0 7), .int (Z 0 8), .int (Z 0 9), .int (Z 0 10), .int (Z 0 11), .ref (q 13), .int (Z 0 13), .ref (q 15), .long g])), (q 2, .inl (T 0, 267, .inl (Z 2))), (q 3, .inl (T 0, 1602, .inl (Z 3))), (q 5, .inl (T 0, 267, .inl (Z 5))), (q 7, .inl (T 0, 60, .inl (Z 7))), (q 13, .inl (T 0, 8, .inl (Z 13))), (q 15, .inl (T 0, 3, .inl (Z 15)))] H := hP
  have hD : va_D A [(q 0, .inr (8, [.int (nI 0), .ref (q 2), .ref (q 3), .int (Z 0 3), .ref (q 5), .int (Z 0 5), .ref (q 7), .int (Z 0 7), .int (Z 0 8), .int (Z 0 9), .int (Z 0 10), .int (Z 0 11), .ref (q 13), .int (Z 0 13), .ref (q 15), .long g])), (q 2, .inl (T 0, 267, .inl (Z 2))), (q 3, .inl (T 0, 1602, .inl (Z 3))), (q 5, .inl (T 0, 267, .inl (Z 5))), (q 7, .inl (T 0, 60, .inl (Z 7))), (q 13, .inl (T 0, 8, .inl (Z 13))), (q 15, .inl (T 0, 3, .inl (Z 15)))] := hD
  refine lv_aload_n hx hb dX8_digest_5 rfl (lv_at hl 0 rfl) ?_
  refine lv_ldc2 (v := 3911) hx hb hown (hts (.constantLong RX8 253 (3911)) (by decide +kernel)) dX8_digest_6 ?_
  refine va_put (D := G) (ci := 8) (v := .long (3911 : Int64)) (ty := .long) (C := RX8) (T := TX8) (N := 16) hx hb hts hinX8 tyX8 tyX8_ok nmX8 hown hK hP hD hS 0 rfl rfl 15 (by decide) lk245 (fun _ h9 => h9) rfl (by decide +kernel) rfl rfl (Nat.le_of_ble_eq_true rfl) dX8_digest_9 (fun H locs hP hD hS => ?_)
  have hP : va_P G vwCl [(q 0, .inr (8, [.int (nI 0), .ref (q 2), .ref (q 3), .int (Z 0 3), .ref (q 5), .int (Z 0 5), .ref (q 7), .int (Z 0 7), .int (Z 0 8), .int (Z 0 9), .int (Z 0 10), .int (Z 0 11), .ref (q 13), .int (Z 0 13), .ref (q 15), .long (3911 : Int64)])), (q 2, .inl (T 0, 267, .inl (Z 2))), (q 3, .inl (T 0, 1602, .inl (Z 3))), (q 5, .inl (T 0, 267, .inl (Z 5))), (q 7, .inl (T 0, 60, .inl (Z 7))), (q 13, .inl (T 0, 8, .inl (Z 13))), (q 15, .inl (T 0, 3, .inl (Z 15)))] H := hP
  have hD : va_D A [(q 0, .inr (8, [.int (nI 0), .ref (q 2), .ref (q 3), .int (Z 0 3), .ref (q 5), .int (Z 0 5), .ref (q 7), .int (Z 0 7), .int (Z 0 8), .int (Z 0 9), .int (Z 0 10), .int (Z 0 11), .ref (q 13), .int (Z 0 13), .ref (q 15), .long (3911 : Int64)])), (q 2, .inl (T 0, 267, .inl (Z 2))), (q 3, .inl (T 0, 1602, .inl (Z 3))), (q 5, .inl (T 0, 267, .inl (Z 5))), (q 7, .inl (T 0, 60, .inl (Z 7))), (q 13, .inl (T 0, 8, .inl (Z 13))), (q 15, .inl (T 0, 3, .inl (Z 15)))] := hD
  refine n_iconst hx hb 0 dX8_digest_12 (by decide) ?_
  refine lv_istore_n (lv' := [(1, .int (nI 0)), (0, .ref (q 0))]) hx hb dX8_digest_13 rfl hl (by decide) rfl (fun ls hl => ?_)
  have L14 : ∀ (n9 k : Nat) (hk1 : k ≤ 14) (hk2 : 14 - k < n9) (x1 : Int32) (gg_1 : Int64) (hx1 : x1 = nI k) (hgg_1 : gg_1 = mD1 (sc Z 0 (nI 0)) ln k) (H : Heap) (locs : List Loc) (hP : va_P G vwCl [(q 0, .inr (8, [.int (nI 0), .ref (q 2), .ref (q 3), .int (Z 0 3), .ref (q 5), .int (Z 0 5), .ref (q 7), .int (Z 0 7), .int (Z 0 8), .int (Z 0 9), .int (Z 0 10), .int (Z 0 11), .ref (q 13), .int (Z 0 13), .ref (q 15), .long gg_1])), (q 2, .inl (T 0, 267, .inl (Z 2))), (q 3, .inl (T 0, 1602, .inl (Z 3))), (q 5, .inl (T 0, 267, .inl (Z 5))), (q 7, .inl (T 0, 60, .inl (Z 7))), (q 13, .inl (T 0, 8, .inl (Z 13))), (q 15, .inl (T 0, 3, .inl (Z 15)))] H) (hD : va_D A [(q 0, .inr (8, [.int (nI 0), .ref (q 2), .ref (q 3), .int (Z 0 3), .ref (q 5), .int (Z 0 5), .ref (q 7), .int (Z 0 7), .int (Z 0 8), .int (Z 0 9), .int (Z 0 10), .int (Z 0 11), .ref (q 13), .int (Z 0 13), .ref (q 15), .long gg_1])), (q 2, .inl (T 0, 267, .inl (Z 2))), (q 3, .inl (T 0, 1602, .inl (Z 3))), (q 5, .inl (T 0, 267, .inl (Z 5))), (q 7, .inl (T 0, 60, .inl (Z 7))), (q 13, .inl (T 0, 8, .inl (Z 13))), (q 15, .inl (T 0, 3, .inl (Z 15)))]) (hS : va_S A s.heap H locs) (ls : Array Slot) (hl : lv_has ls 2 [(1, .int x1), (0, .ref (q 0))]), W p l e (headSpec wsX8_digest (rmD 7 0 0)).room s m args below meth c H locs 0 0 Q0 (F0 m 14 ls []) := by
    intro n9
    induction n9 with
    | zero => intros; omega
    | succ n9 ih14 =>
      intro k hk1 hk2 x1 gg_1 hx1 hgg_1 H locs hP hD hS ls hl
      subst hx1 hgg_1
      refine lv_iload_n hx hb dX8_digest_14 rfl (lv_at hl 0 rfl) ?_
      refine lv_bipush (v := nI 14) hx hb dX8_digest_15 (by decide) ?_
      refine n_icmp_ge (a := k) (b := 14) (tgt := 36) hx hb (by omega) (by decide) dX8_digest_17 (by decide) (fun c_2 => ?_) (fun c_3 => ?_)
      · skip
        obtain rfl : k = 14 := (by omega)
        refine n_iconst hx hb 0 dX8_digest_36 (by decide) ?_
        refine lv_istore_n (lv' := [(1, .int (nI 0)), (0, .ref (q 0))]) hx hb dX8_digest_37 rfl hl (by decide) rfl (fun ls hl => ?_)
        have L38_i_4 : ∀ (n9 k : Nat) (hk1 : k ≤ 20) (hk2 : 20 - k < n9) (x1 : Int32) (gg_5 : Int64) (hx1 : x1 = nI k) (hgg_5 : gg_5 = mD2 (sc Z 0 (nI 0)) (mD1 (sc Z 0 (nI 0)) ln 14) k) (H : Heap) (locs : List Loc) (hP : va_P G vwCl [(q 0, .inr (8, [.int (nI 0), .ref (q 2), .ref (q 3), .int (Z 0 3), .ref (q 5), .int (Z 0 5), .ref (q 7), .int (Z 0 7), .int (Z 0 8), .int (Z 0 9), .int (Z 0 10), .int (Z 0 11), .ref (q 13), .int (Z 0 13), .ref (q 15), .long gg_5])), (q 2, .inl (T 0, 267, .inl (Z 2))), (q 3, .inl (T 0, 1602, .inl (Z 3))), (q 5, .inl (T 0, 267, .inl (Z 5))), (q 7, .inl (T 0, 60, .inl (Z 7))), (q 13, .inl (T 0, 8, .inl (Z 13))), (q 15, .inl (T 0, 3, .inl (Z 15)))] H) (hD : va_D A [(q 0, .inr (8, [.int (nI 0), .ref (q 2), .ref (q 3), .int (Z 0 3), .ref (q 5), .int (Z 0 5), .ref (q 7), .int (Z 0 7), .int (Z 0 8), .int (Z 0 9), .int (Z 0 10), .int (Z 0 11), .ref (q 13), .int (Z 0 13), .ref (q 15), .long gg_5])), (q 2, .inl (T 0, 267, .inl (Z 2))), (q 3, .inl (T 0, 1602, .inl (Z 3))), (q 5, .inl (T 0, 267, .inl (Z 5))), (q 7, .inl (T 0, 60, .inl (Z 7))), (q 13, .inl (T 0, 8, .inl (Z 13))), (q 15, .inl (T 0, 3, .inl (Z 15)))]) (hS : va_S A s.heap H locs) (ls : Array Slot) (hl : lv_has ls 2 [(1, .int x1), (0, .ref (q 0))]), W p l e (headSpec wsX8_digest (rmD 7 0 0)).room s m args below meth c H locs 0 0 Q0 (F0 m 38 ls []) := by
          intro n9
          induction n9 with
          | zero => intros; omega
          | succ n9 ih38 =>
            intro k hk1 hk2 x1 gg_5 hx1 hgg_5 H locs hP hD hS ls hl
            subst hx1 hgg_5
            refine lv_iload_n hx hb dX8_digest_38 rfl (lv_at hl 0 rfl) ?_
            refine lv_bipush (v := nI 20) hx hb dX8_digest_39 (by decide) ?_
            refine n_icmp_ge (a := k) (b := 20) (tgt := 55) hx hb (by omega) (by decide) dX8_digest_41 (by decide) (fun c_6 => ?_) (fun c_7 => ?_)
            · skip
              obtain rfl : k = 20 := (by omega)
              refine n_iconst hx hb 0 dX8_digest_55 (by decide) ?_
              refine lv_istore_n (lv' := [(1, .int (nI 0)), (0, .ref (q 0))]) hx hb dX8_digest_56 rfl hl (by decide) rfl (fun ls hl => ?_)
              have L57_i_8 : ∀ (n9 k : Nat) (hk1 : k ≤ 6) (hk2 : 6 - k < n9) (x1 : Int32) (gg_9 : Int64) (hx1 : x1 = nI k) (hgg_9 : gg_9 = mD3 (sc Z 0 (nI 0)) (mD2 (sc Z 0 (nI 0)) (mD1 (sc Z 0 (nI 0)) ln 14) 20) k) (H : Heap) (locs : List Loc) (hP : va_P G vwCl [(q 0, .inr (8, [.int (nI 0), .ref (q 2), .ref (q 3), .int (Z 0 3), .ref (q 5), .int (Z 0 5), .ref (q 7), .int (Z 0 7), .int (Z 0 8), .int (Z 0 9), .int (Z 0 10), .int (Z 0 11), .ref (q 13), .int (Z 0 13), .ref (q 15), .long gg_9])), (q 2, .inl (T 0, 267, .inl (Z 2))), (q 3, .inl (T 0, 1602, .inl (Z 3))), (q 5, .inl (T 0, 267, .inl (Z 5))), (q 7, .inl (T 0, 60, .inl (Z 7))), (q 13, .inl (T 0, 8, .inl (Z 13))), (q 15, .inl (T 0, 3, .inl (Z 15)))] H) (hD : va_D A [(q 0, .inr (8, [.int (nI 0), .ref (q 2), .ref (q 3), .int (Z 0 3), .ref (q 5), .int (Z 0 5), .ref (q 7), .int (Z 0 7), .int (Z 0 8), .int (Z 0 9), .int (Z 0 10), .int (Z 0 11), .ref (q 13), .int (Z 0 13), .ref (q 15), .long gg_9])), (q 2, .inl (T 0, 267, .inl (Z 2))), (q 3, .inl (T 0, 1602, .inl (Z 3))), (q 5, .inl (T 0, 267, .inl (Z 5))), (q 7, .inl (T 0, 60, .inl (Z 7))), (q 13, .inl (T 0, 8, .inl (Z 13))), (q 15, .inl (T 0, 3, .inl (Z 15)))]) (hS : va_S A s.heap H locs) (ls : Array Slot) (hl : lv_has ls 2 [(1, .int x1), (0, .ref (q 0))]), W p l e (headSpec wsX8_digest (rmD 7 0 0)).room s m args below meth c H locs 0 0 Q0 (F0 m 57 ls []) := by
                intro n9
                induction n9 with
                | zero => intros; omega
                | succ n9 ih57 =>
                  intro k hk1 hk2 x1 gg_9 hx1 hgg_9 H locs hP hD hS ls hl
                  subst hx1 hgg_9
                  refine lv_iload_n hx hb dX8_digest_57 rfl (lv_at hl 0 rfl) ?_
                  refine lv_bipush (v := nI 6) hx hb dX8_digest_58 (by decide) ?_
                  refine n_icmp_ge (a := k) (b := 6) (tgt := 74) hx hb (by omega) (by decide) dX8_digest_60 (by decide) (fun c_10 => ?_) (fun c_11 => ?_)
                  · skip
                    obtain rfl : k = 6 := (by omega)
                    refine lv_bipush (v := nI 6) hx hb dX8_digest_74 (by decide) ?_
                    refine lv_istore_n (lv' := [(1, .int (nI 6)), (0, .ref (q 0))]) hx hb dX8_digest_76 rfl hl (by decide) rfl (fun ls hl => ?_)
                    have L77_i_12 : ∀ (n9 k : Nat) (hk1 : k ≤ 8) (hk2 : 8 - k < n9) (x1 : Int32) (gg_13 : Int64) (hx1 : x1 = nI (k + 6)) (hgg_13 : gg_13 = mD4 (sc Z 0 (nI 0)) (mD3 (sc Z 0 (nI 0)) (mD2 (sc Z 0 (nI 0)) (mD1 (sc Z 0 (nI 0)) ln 14) 20) 6) k) (H : Heap) (locs : List Loc) (hP : va_P G vwCl [(q 0, .inr (8, [.int (nI 0), .ref (q 2), .ref (q 3), .int (Z 0 3), .ref (q 5), .int (Z 0 5), .ref (q 7), .int (Z 0 7), .int (Z 0 8), .int (Z 0 9), .int (Z 0 10), .int (Z 0 11), .ref (q 13), .int (Z 0 13), .ref (q 15), .long gg_13])), (q 2, .inl (T 0, 267, .inl (Z 2))), (q 3, .inl (T 0, 1602, .inl (Z 3))), (q 5, .inl (T 0, 267, .inl (Z 5))), (q 7, .inl (T 0, 60, .inl (Z 7))), (q 13, .inl (T 0, 8, .inl (Z 13))), (q 15, .inl (T 0, 3, .inl (Z 15)))] H) (hD : va_D A [(q 0, .inr (8, [.int (nI 0), .ref (q 2), .ref (q 3), .int (Z 0 3), .ref (q 5), .int (Z 0 5), .ref (q 7), .int (Z 0 7), .int (Z 0 8), .int (Z 0 9), .int (Z 0 10), .int (Z 0 11), .ref (q 13), .int (Z 0 13), .ref (q 15), .long gg_13])), (q 2, .inl (T 0, 267, .inl (Z 2))), (q 3, .inl (T 0, 1602, .inl (Z 3))), (q 5, .inl (T 0, 267, .inl (Z 5))), (q 7, .inl (T 0, 60, .inl (Z 7))), (q 13, .inl (T 0, 8, .inl (Z 13))), (q 15, .inl (T 0, 3, .inl (Z 15)))]) (hS : va_S A s.heap H locs) (ls : Array Slot) (hl : lv_has ls 2 [(1, .int x1), (0, .ref (q 0))]), W p l e (headSpec wsX8_digest (rmD 7 0 0)).room s m args below meth c H locs 0 0 Q0 (F0 m 77 ls []) := by
                      intro n9
                      induction n9 with
                      | zero => intros; omega
                      | succ n9 ih77 =>
                        intro k hk1 hk2 x1 gg_13 hx1 hgg_13 H locs hP hD hS ls hl
                        subst hx1 hgg_13
                        refine lv_iload_n hx hb dX8_digest_77 rfl (lv_at hl 0 rfl) ?_
                        refine lv_bipush (v := nI 13) hx hb dX8_digest_78 (by decide) ?_
                        refine n_icmp_gt (a := k + 6) (b := 13) (tgt := 100) hx hb (by omega) (by decide) dX8_digest_80 (by decide) (fun c_14 => ?_) (fun c_15 => ?_)
                        · skip
                          obtain rfl : k = 8 := (by omega)
                          refine lv_aload_n hx hb dX8_digest_100 rfl (lv_at hl 1 rfl) ?_
                          refine lv_aload_n hx hb dX8_digest_101 rfl (lv_at hl 1 rfl) ?_
                          refine k_rdV (As := []) (rest := [.ref (q 0)]) (wc := oX8 T q (sc Z 0 (nI 0)) (mD4 (sc Z 0 (nI 0)) (mD3 (sc Z 0 (nI 0)) (mD2 (sc Z 0 (nI 0)) (mD1 (sc Z 0 (nI 0)) ln 14) 20) 6) 8)) (wr := []) (w1 := oX8 T q (sc Z 0 (nI 0)) (mD4 (sc Z 0 (nI 0)) (mD3 (sc Z 0 (nI 0)) (mD2 (sc Z 0 (nI 0)) (mD1 (sc Z 0 (nI 0)) ln 14) 20) 6) 8)) (d := 4) (mc := 0) (ms := 0) (v := mSh9 (sc Z 0 (nI 0))) (isC := [0, 1, 2, 3, 4, 5, 6]) (isR := []) cx (c_X8_share l G T H.size q (sc Z 0 (nI 0)) (mD4 (sc Z 0 (nI 0)) (mD3 (sc Z 0 (nI 0)) (mD2 (sc Z 0 (nI 0)) (mD1 (sc Z 0 (nI 0)) ln 14) 20) 6) 8) ) (cwV 0 hts gX8_digest_X8_share rfl rfl rfl (by decide +kernel) ⟨Nat.le_of_ble_eq_true rfl, Nat.le_of_ble_eq_true rfl⟩) ⟨hP, hD, hS, hA, hE, hK, rfl, rfl, rfl, rfl, by decide⟩ (va_recv hK hP (ci := 8) (q0 := 0) rfl rfl) rfl hl.1 rfl (Nat.le_of_ble_eq_true rfl) dX8_digest_102 ⟨Nat.le_of_ble_eq_true rfl, Nat.le_of_ble_eq_true rfl⟩ (fun H locs hP hD hS hz => ?_)
                          have hP : va_P G vwCl [(q 0, .inr (8, [.int (nI 0), .ref (q 2), .ref (q 3), .int (Z 0 3), .ref (q 5), .int (Z 0 5), .ref (q 7), .int (Z 0 7), .int (Z 0 8), .int (Z 0 9), .int (Z 0 10), .int (Z 0 11), .ref (q 13), .int (Z 0 13), .ref (q 15), .long (mD4 (sc Z 0 (nI 0)) (mD3 (sc Z 0 (nI 0)) (mD2 (sc Z 0 (nI 0)) (mD1 (sc Z 0 (nI 0)) ln 14) 20) 6) 8)])), (q 2, .inl (T 0, 267, .inl (Z 2))), (q 3, .inl (T 0, 1602, .inl (Z 3))), (q 5, .inl (T 0, 267, .inl (Z 5))), (q 7, .inl (T 0, 60, .inl (Z 7))), (q 13, .inl (T 0, 8, .inl (Z 13))), (q 15, .inl (T 0, 3, .inl (Z 15)))] H := hP
                          have hD : va_D A [(q 0, .inr (8, [.int (nI 0), .ref (q 2), .ref (q 3), .int (Z 0 3), .ref (q 5), .int (Z 0 5), .ref (q 7), .int (Z 0 7), .int (Z 0 8), .int (Z 0 9), .int (Z 0 10), .int (Z 0 11), .ref (q 13), .int (Z 0 13), .ref (q 15), .long (mD4 (sc Z 0 (nI 0)) (mD3 (sc Z 0 (nI 0)) (mD2 (sc Z 0 (nI 0)) (mD1 (sc Z 0 (nI 0)) ln 14) 20) 6) 8)])), (q 2, .inl (T 0, 267, .inl (Z 2))), (q 3, .inl (T 0, 1602, .inl (Z 3))), (q 5, .inl (T 0, 267, .inl (Z 5))), (q 7, .inl (T 0, 60, .inl (Z 7))), (q 13, .inl (T 0, 8, .inl (Z 13))), (q 15, .inl (T 0, 3, .inl (Z 15)))] := hD
                          refine k_rlS0 (As := [.double (mSh9 (sc Z 0 (nI 0)))]) (rest := [.ref (q 0)]) (d := 1) (v := (mSh9 (sc Z 0 (nI 0))).toInt64) cx (c_Jxe99ae_doubleToLongBits_ccdee l G T H.size (mSh9 (sc Z 0 (nI 0))) (mShare_n _ _)) (va_cwS 1 hts gX8_digest_Jxe99ae_doubleToLongBits_ccdee rfl rfl rfl (by decide +kernel) ⟨Nat.le_of_ble_eq_true rfl, Nat.le_of_ble_eq_true rfl⟩) hP hD hS hA hE hK rfl hl.1 rfl (Nat.le_of_ble_eq_true rfl) dX8_digest_105 ⟨Nat.le_of_ble_eq_true rfl, Nat.le_of_ble_eq_true rfl⟩ (fun H locs hP hD hS hz => ?_)
                          refine k_rvV (As := [.long ((mSh9 (sc Z 0 (nI 0))).toInt64)]) (rest := []) (wc := oX8 T q (sc Z 0 (nI 0)) (mD4 (sc Z 0 (nI 0)) (mD3 (sc Z 0 (nI 0)) (mD2 (sc Z 0 (nI 0)) (mD1 (sc Z 0 (nI 0)) ln 14) 20) 6) 8)) (wr := []) (w1 := oX8 T q (sc Z 0 (nI 0)) (dMx (mD4 (sc Z 0 (nI 0)) (mD3 (sc Z 0 (nI 0)) (mD2 (sc Z 0 (nI 0)) (mD1 (sc Z 0 (nI 0)) ln 14) 20) 6) 8) ((mSh9 (sc Z 0 (nI 0))).toInt64))) (d := 0) (mc := 0) (ms := 0) (isC := [0, 1, 2, 3, 4, 5, 6]) (isR := []) cx (c_X8_mix l G T H.size q (sc Z 0 (nI 0)) (mD4 (sc Z 0 (nI 0)) (mD3 (sc Z 0 (nI 0)) (mD2 (sc Z 0 (nI 0)) (mD1 (sc Z 0 (nI 0)) ln 14) 20) 6) 8) ((mSh9 (sc Z 0 (nI 0))).toInt64) ) (cwV 1 hts gX8_digest_X8_mix rfl rfl rfl (by decide +kernel) ⟨Nat.le_of_ble_eq_true rfl, Nat.le_of_ble_eq_true rfl⟩) ⟨hP, hD, hS, hA, hE, hK, rfl, rfl, rfl, rfl, by decide⟩ (va_recv hK hP (ci := 8) (q0 := 0) rfl rfl) rfl hl.1 rfl (Nat.le_of_ble_eq_true rfl) dX8_digest_108 ⟨Nat.le_of_ble_eq_true rfl, Nat.le_of_ble_eq_true rfl⟩ (fun H locs hP hD hS hz => ?_)
                          have hP : va_P G vwCl [(q 0, .inr (8, [.int (nI 0), .ref (q 2), .ref (q 3), .int (Z 0 3), .ref (q 5), .int (Z 0 5), .ref (q 7), .int (Z 0 7), .int (Z 0 8), .int (Z 0 9), .int (Z 0 10), .int (Z 0 11), .ref (q 13), .int (Z 0 13), .ref (q 15), .long (dMx (mD4 (sc Z 0 (nI 0)) (mD3 (sc Z 0 (nI 0)) (mD2 (sc Z 0 (nI 0)) (mD1 (sc Z 0 (nI 0)) ln 14) 20) 6) 8) ((mSh9 (sc Z 0 (nI 0))).toInt64))])), (q 2, .inl (T 0, 267, .inl (Z 2))), (q 3, .inl (T 0, 1602, .inl (Z 3))), (q 5, .inl (T 0, 267, .inl (Z 5))), (q 7, .inl (T 0, 60, .inl (Z 7))), (q 13, .inl (T 0, 8, .inl (Z 13))), (q 15, .inl (T 0, 3, .inl (Z 15)))] H := hP
                          have hD : va_D A [(q 0, .inr (8, [.int (nI 0), .ref (q 2), .ref (q 3), .int (Z 0 3), .ref (q 5), .int (Z 0 5), .ref (q 7), .int (Z 0 7), .int (Z 0 8), .int (Z 0 9), .int (Z 0 10), .int (Z 0 11), .ref (q 13), .int (Z 0 13), .ref (q 15), .long (dMx (mD4 (sc Z 0 (nI 0)) (mD3 (sc Z 0 (nI 0)) (mD2 (sc Z 0 (nI 0)) (mD1 (sc Z 0 (nI 0)) ln 14) 20) 6) 8) ((mSh9 (sc Z 0 (nI 0))).toInt64))])), (q 2, .inl (T 0, 267, .inl (Z 2))), (q 3, .inl (T 0, 1602, .inl (Z 3))), (q 5, .inl (T 0, 267, .inl (Z 5))), (q 7, .inl (T 0, 60, .inl (Z 7))), (q 13, .inl (T 0, 8, .inl (Z 13))), (q 15, .inl (T 0, 3, .inl (Z 15)))] := hD
                          refine lv_aload_n hx hb dX8_digest_111 rfl (lv_at hl 1 rfl) ?_
                          refine lv_aload_n hx hb dX8_digest_112 rfl (lv_at hl 1 rfl) ?_
                          refine va_get (D := G) (ci := 8) (v := .int (Z 0 7)) (C := RX8) (T := TX8) (N := 16) hx hb hts hinX8 hown hK hP 0 rfl rfl 7 (by decide) lk53 (fun _ h9 => h9) rfl dX8_digest_113 ?_
                          refine n_top (y := nI L) hle ?_
                          refine lv_i2l (v := (nI L).toInt64) hx hb dX8_digest_116 rfl ?_
                          refine k_rvV (As := [.long ((nI L).toInt64)]) (rest := []) (wc := oX8 T q (sc Z 0 (nI 0)) (dMx (mD4 (sc Z 0 (nI 0)) (mD3 (sc Z 0 (nI 0)) (mD2 (sc Z 0 (nI 0)) (mD1 (sc Z 0 (nI 0)) ln 14) 20) 6) 8) ((mSh9 (sc Z 0 (nI 0))).toInt64))) (wr := []) (w1 := oX8 T q (sc Z 0 (nI 0)) (dMx (dMx (mD4 (sc Z 0 (nI 0)) (mD3 (sc Z 0 (nI 0)) (mD2 (sc Z 0 (nI 0)) (mD1 (sc Z 0 (nI 0)) ln 14) 20) 6) 8) ((mSh9 (sc Z 0 (nI 0))).toInt64)) ((nI L).toInt64))) (d := 0) (mc := 0) (ms := 0) (isC := [0, 1, 2, 3, 4, 5, 6]) (isR := []) cx (c_X8_mix l G T H.size q (sc Z 0 (nI 0)) (dMx (mD4 (sc Z 0 (nI 0)) (mD3 (sc Z 0 (nI 0)) (mD2 (sc Z 0 (nI 0)) (mD1 (sc Z 0 (nI 0)) ln 14) 20) 6) 8) ((mSh9 (sc Z 0 (nI 0))).toInt64)) ((nI L).toInt64) ) (cwV 1 hts gX8_digest_X8_mix rfl rfl rfl (by decide +kernel) ⟨Nat.le_of_ble_eq_true rfl, Nat.le_of_ble_eq_true rfl⟩) ⟨hP, hD, hS, hA, hE, hK, rfl, rfl, rfl, rfl, by decide⟩ (va_recv hK hP (ci := 8) (q0 := 0) rfl rfl) rfl hl.1 rfl (Nat.le_of_ble_eq_true rfl) dX8_digest_117 ⟨Nat.le_of_ble_eq_true rfl, Nat.le_of_ble_eq_true rfl⟩ (fun H locs hP hD hS hz => ?_)
                          have hP : va_P G vwCl [(q 0, .inr (8, [.int (nI 0), .ref (q 2), .ref (q 3), .int (Z 0 3), .ref (q 5), .int (Z 0 5), .ref (q 7), .int (Z 0 7), .int (Z 0 8), .int (Z 0 9), .int (Z 0 10), .int (Z 0 11), .ref (q 13), .int (Z 0 13), .ref (q 15), .long (dMx (dMx (mD4 (sc Z 0 (nI 0)) (mD3 (sc Z 0 (nI 0)) (mD2 (sc Z 0 (nI 0)) (mD1 (sc Z 0 (nI 0)) ln 14) 20) 6) 8) ((mSh9 (sc Z 0 (nI 0))).toInt64)) ((nI L).toInt64))])), (q 2, .inl (T 0, 267, .inl (Z 2))), (q 3, .inl (T 0, 1602, .inl (Z 3))), (q 5, .inl (T 0, 267, .inl (Z 5))), (q 7, .inl (T 0, 60, .inl (Z 7))), (q 13, .inl (T 0, 8, .inl (Z 13))), (q 15, .inl (T 0, 3, .inl (Z 15)))] H := hP
                          have hD : va_D A [(q 0, .inr (8, [.int (nI 0), .ref (q 2), .ref (q 3), .int (Z 0 3), .ref (q 5), .int (Z 0 5), .ref (q 7), .int (Z 0 7), .int (Z 0 8), .int (Z 0 9), .int (Z 0 10), .int (Z 0 11), .ref (q 13), .int (Z 0 13), .ref (q 15), .long (dMx (dMx (mD4 (sc Z 0 (nI 0)) (mD3 (sc Z 0 (nI 0)) (mD2 (sc Z 0 (nI 0)) (mD1 (sc Z 0 (nI 0)) ln 14) 20) 6) 8) ((mSh9 (sc Z 0 (nI 0))).toInt64)) ((nI L).toInt64))])), (q 2, .inl (T 0, 267, .inl (Z 2))), (q 3, .inl (T 0, 1602, .inl (Z 3))), (q 5, .inl (T 0, 267, .inl (Z 5))), (q 7, .inl (T 0, 60, .inl (Z 7))), (q 13, .inl (T 0, 8, .inl (Z 13))), (q 15, .inl (T 0, 3, .inl (Z 15)))] := hD
                          refine n_iconst hx hb 0 dX8_digest_120 (by decide) ?_
                          refine lv_istore_n (lv' := [(1, .int (nI 0)), (0, .ref (q 0))]) hx hb dX8_digest_121 rfl hl (by decide) rfl (fun ls hl => ?_)
                          have L122_i_16 : ∀ (n9 k : Nat) (hk1 : k ≤ L) (hk2 : L - k < n9) (x1 : Int32) (gg_17 : Int64) (hx1 : x1 = nI k) (hgg_17 : gg_17 = mD5 (sc Z 0 (nI 0)) L (mD4 (sc Z 0 (nI 0)) (mD3 (sc Z 0 (nI 0)) (mD2 (sc Z 0 (nI 0)) (mD1 (sc Z 0 (nI 0)) ln 14) 20) 6) 8) k) (H : Heap) (locs : List Loc) (hP : va_P G vwCl [(q 0, .inr (8, [.int (nI 0), .ref (q 2), .ref (q 3), .int (Z 0 3), .ref (q 5), .int (Z 0 5), .ref (q 7), .int (Z 0 7), .int (Z 0 8), .int (Z 0 9), .int (Z 0 10), .int (Z 0 11), .ref (q 13), .int (Z 0 13), .ref (q 15), .long gg_17])), (q 2, .inl (T 0, 267, .inl (Z 2))), (q 3, .inl (T 0, 1602, .inl (Z 3))), (q 5, .inl (T 0, 267, .inl (Z 5))), (q 7, .inl (T 0, 60, .inl (Z 7))), (q 13, .inl (T 0, 8, .inl (Z 13))), (q 15, .inl (T 0, 3, .inl (Z 15)))] H) (hD : va_D A [(q 0, .inr (8, [.int (nI 0), .ref (q 2), .ref (q 3), .int (Z 0 3), .ref (q 5), .int (Z 0 5), .ref (q 7), .int (Z 0 7), .int (Z 0 8), .int (Z 0 9), .int (Z 0 10), .int (Z 0 11), .ref (q 13), .int (Z 0 13), .ref (q 15), .long gg_17])), (q 2, .inl (T 0, 267, .inl (Z 2))), (q 3, .inl (T 0, 1602, .inl (Z 3))), (q 5, .inl (T 0, 267, .inl (Z 5))), (q 7, .inl (T 0, 60, .inl (Z 7))), (q 13, .inl (T 0, 8, .inl (Z 13))), (q 15, .inl (T 0, 3, .inl (Z 15)))]) (hS : va_S A s.heap H locs) (ls : Array Slot) (hl : lv_has ls 2 [(1, .int x1), (0, .ref (q 0))]), W p l e (headSpec wsX8_digest (rmD 7 0 0)).room s m args below meth c H locs 0 0 Q0 (F0 m 122 ls []) := by
                            intro n9
                            induction n9 with
                            | zero => intros; omega
                            | succ n9 ih122 =>
                              intro k hk1 hk2 x1 gg_17 hx1 hgg_17 H locs hP hD hS ls hl
                              subst hx1 hgg_17
                              refine lv_iload_n hx hb dX8_digest_122 rfl (lv_at hl 0 rfl) ?_
                              refine lv_aload_n hx hb dX8_digest_123 rfl (lv_at hl 1 rfl) ?_
                              refine va_get (D := G) (ci := 8) (v := .int (Z 0 7)) (C := RX8) (T := TX8) (N := 16) hx hb hts hinX8 hown hK hP 0 rfl rfl 7 (by decide) lk53 (fun _ h9 => h9) rfl dX8_digest_124 ?_
                              refine n_top (y := nI L) hle ?_
                              refine n_icmp_ge (a := k) (b := L) (tgt := 147) hx hb (by omega) (by omega) dX8_digest_127 (by decide) (fun c_18 => ?_) (fun c_19 => ?_)
                              · skip
                                refine lv_aload_n hx hb dX8_digest_147 rfl (lv_at hl 1 rfl) ?_
                                refine va_get (D := G) (ci := 8) (v := .long (mD5 (sc Z 0 (nI 0)) L (mD4 (sc Z 0 (nI 0)) (mD3 (sc Z 0 (nI 0)) (mD2 (sc Z 0 (nI 0)) (mD1 (sc Z 0 (nI 0)) ln 14) 20) 6) 8) k)) (C := RX8) (T := TX8) (N := 16) hx hb hts hinX8 hown hK hP 0 rfl rfl 15 (by decide) lk245 (fun _ h9 => h9) rfl dX8_digest_148 ?_
                                subst hQ
                                have e_20 : mD5 (sc Z 0 (nI 0)) L (mD4 (sc Z 0 (nI 0)) (mD3 (sc Z 0 (nI 0)) (mD2 (sc Z 0 (nI 0)) (mD1 (sc Z 0 (nI 0)) ln 14) 20) 6) 8) k = mDg (sc Z 0 (nI 0)) ln L := (by have hkL : k = L := (by omega); rw [hkL]; rfl)
                                rw [e_20] at hP hD
                                have hP9 : va_P G vwCl (oX8 T q (sc Z 0 (nI 0)) (mDg (sc Z 0 (nI 0)) ln L)) H := hP
                                have hD9 : va_D A (oX8 T q (sc Z 0 (nI 0)) (mDg (sc Z 0 (nI 0)) ln L)) := hD
                                exact e_rwl hx hb hr hlocks hS (by have hkL : k = L := (by omega); rw [hkL]; rfl) hP9 hD9 dX8_digest_151
                              · skip
                                refine lv_aload_n hx hb dX8_digest_130 rfl (lv_at hl 1 rfl) ?_
                                refine lv_aload_n hx hb dX8_digest_131 rfl (lv_at hl 1 rfl) ?_
                                refine va_get (D := G) (ci := 8) (v := .ref (q 7)) (C := RX8) (T := TX8) (N := 16) hx hb hts hinX8 hown hK hP 0 rfl rfl 6 (by decide) lk19 (fun _ h9 => h9) rfl dX8_digest_132 ?_
                                refine lv_iload_n hx hb dX8_digest_135 rfl (lv_at hl 0 rfl) ?_
                                refine n_iald hx hb hK hP 4 0 rfl rfl k (by omega) (by decide) dX8_digest_136 ?_
                                refine lv_i2l (v := ((Z 7) k).toInt64) hx hb dX8_digest_137 rfl ?_
                                refine k_rvV (As := [.long (((Z 7) k).toInt64)]) (rest := []) (wc := oX8 T q (sc Z 0 (nI 0)) (mD5 (sc Z 0 (nI 0)) L (mD4 (sc Z 0 (nI 0)) (mD3 (sc Z 0 (nI 0)) (mD2 (sc Z 0 (nI 0)) (mD1 (sc Z 0 (nI 0)) ln 14) 20) 6) 8) k)) (wr := []) (w1 := oX8 T q (sc Z 0 (nI 0)) (dMx (mD5 (sc Z 0 (nI 0)) L (mD4 (sc Z 0 (nI 0)) (mD3 (sc Z 0 (nI 0)) (mD2 (sc Z 0 (nI 0)) (mD1 (sc Z 0 (nI 0)) ln 14) 20) 6) 8) k) (((Z 7) k).toInt64))) (d := 0) (mc := 0) (ms := 0) (isC := [0, 1, 2, 3, 4, 5, 6]) (isR := []) cx (c_X8_mix l G T H.size q (sc Z 0 (nI 0)) (mD5 (sc Z 0 (nI 0)) L (mD4 (sc Z 0 (nI 0)) (mD3 (sc Z 0 (nI 0)) (mD2 (sc Z 0 (nI 0)) (mD1 (sc Z 0 (nI 0)) ln 14) 20) 6) 8) k) (((Z 7) k).toInt64) ) (cwV 1 hts gX8_digest_X8_mix rfl rfl rfl (by decide +kernel) ⟨Nat.le_of_ble_eq_true rfl, Nat.le_of_ble_eq_true rfl⟩) ⟨hP, hD, hS, hA, hE, hK, rfl, rfl, rfl, rfl, by decide⟩ (va_recv hK hP (ci := 8) (q0 := 0) rfl rfl) rfl hl.1 rfl (Nat.le_of_ble_eq_true rfl) dX8_digest_138 ⟨Nat.le_of_ble_eq_true rfl, Nat.le_of_ble_eq_true rfl⟩ (fun H locs hP hD hS hz => ?_)
                                have hP : va_P G vwCl [(q 0, .inr (8, [.int (nI 0), .ref (q 2), .ref (q 3), .int (Z 0 3), .ref (q 5), .int (Z 0 5), .ref (q 7), .int (Z 0 7), .int (Z 0 8), .int (Z 0 9), .int (Z 0 10), .int (Z 0 11), .ref (q 13), .int (Z 0 13), .ref (q 15), .long (dMx (mD5 (sc Z 0 (nI 0)) L (mD4 (sc Z 0 (nI 0)) (mD3 (sc Z 0 (nI 0)) (mD2 (sc Z 0 (nI 0)) (mD1 (sc Z 0 (nI 0)) ln 14) 20) 6) 8) k) (((Z 7) k).toInt64))])), (q 2, .inl (T 0, 267, .inl (Z 2))), (q 3, .inl (T 0, 1602, .inl (Z 3))), (q 5, .inl (T 0, 267, .inl (Z 5))), (q 7, .inl (T 0, 60, .inl (Z 7))), (q 13, .inl (T 0, 8, .inl (Z 13))), (q 15, .inl (T 0, 3, .inl (Z 15)))] H := hP
                                have hD : va_D A [(q 0, .inr (8, [.int (nI 0), .ref (q 2), .ref (q 3), .int (Z 0 3), .ref (q 5), .int (Z 0 5), .ref (q 7), .int (Z 0 7), .int (Z 0 8), .int (Z 0 9), .int (Z 0 10), .int (Z 0 11), .ref (q 13), .int (Z 0 13), .ref (q 15), .long (dMx (mD5 (sc Z 0 (nI 0)) L (mD4 (sc Z 0 (nI 0)) (mD3 (sc Z 0 (nI 0)) (mD2 (sc Z 0 (nI 0)) (mD1 (sc Z 0 (nI 0)) ln 14) 20) 6) 8) k) (((Z 7) k).toInt64))])), (q 2, .inl (T 0, 267, .inl (Z 2))), (q 3, .inl (T 0, 1602, .inl (Z 3))), (q 5, .inl (T 0, 267, .inl (Z 5))), (q 7, .inl (T 0, 60, .inl (Z 7))), (q 13, .inl (T 0, 8, .inl (Z 13))), (q 15, .inl (T 0, 3, .inl (Z 15)))] := hD
                                refine lv_iinc (v := nI (k + 1)) (lv' := [(1, .int (nI (k + 1))), (0, .ref (q 0))]) hx hb dX8_digest_141 hl (k := 0) rfl (n_inc k 1 rfl) (by decide) rfl (fun ls hl => ?_)
                                refine lv_goto (tgt := 122) hx hb dX8_digest_144 (by decide) ?_
                                have e_21 : (dMx (mD5 (sc Z 0 (nI 0)) L (mD4 (sc Z 0 (nI 0)) (mD3 (sc Z 0 (nI 0)) (mD2 (sc Z 0 (nI 0)) (mD1 (sc Z 0 (nI 0)) ln 14) 20) 6) 8) k) (((Z 7) k).toInt64)) = mD5 (sc Z 0 (nI 0)) L (mD4 (sc Z 0 (nI 0)) (mD3 (sc Z 0 (nI 0)) (mD2 (sc Z 0 (nI 0)) (mD1 (sc Z 0 (nI 0)) ln 14) 20) 6) 8) (k + 1) := rfl
                                exact ih122 (k + 1) (by omega) (by omega) _ _ rfl e_21 _ _ hP hD hS _ (lv_sub hl [0, 1] rfl)
                          exact L122_i_16 (L + 1) 0 (by omega) (by omega) _ _ rfl rfl _ _ hP hD hS _ (lv_sub hl [0, 1] rfl)
                        · skip
                          refine lv_aload_n hx hb dX8_digest_83 rfl (lv_at hl 1 rfl) ?_
                          refine lv_aload_n hx hb dX8_digest_84 rfl (lv_at hl 1 rfl) ?_
                          refine va_get (D := G) (ci := 8) (v := .ref (q 2)) (C := RX8) (T := TX8) (N := 16) hx hb hts hinX8 hown hK hP 0 rfl rfl 1 (by decide) lk7 (fun _ h9 => h9) rfl dX8_digest_85 ?_
                          refine lv_iload_n hx hb dX8_digest_88 rfl (lv_at hl 0 rfl) ?_
                          refine n_iald hx hb hK hP 1 0 rfl rfl (k + 6) (by omega) (by decide) dX8_digest_89 ?_
                          refine lv_i2l (v := ((Z 2) (k + 6)).toInt64) hx hb dX8_digest_90 rfl ?_
                          refine k_rvV (As := [.long (((Z 2) (k + 6)).toInt64)]) (rest := []) (wc := oX8 T q (sc Z 0 (nI 0)) (mD4 (sc Z 0 (nI 0)) (mD3 (sc Z 0 (nI 0)) (mD2 (sc Z 0 (nI 0)) (mD1 (sc Z 0 (nI 0)) ln 14) 20) 6) k)) (wr := []) (w1 := oX8 T q (sc Z 0 (nI 0)) (dMx (mD4 (sc Z 0 (nI 0)) (mD3 (sc Z 0 (nI 0)) (mD2 (sc Z 0 (nI 0)) (mD1 (sc Z 0 (nI 0)) ln 14) 20) 6) k) (((Z 2) (k + 6)).toInt64))) (d := 0) (mc := 0) (ms := 0) (isC := [0, 1, 2, 3, 4, 5, 6]) (isR := []) cx (c_X8_mix l G T H.size q (sc Z 0 (nI 0)) (mD4 (sc Z 0 (nI 0)) (mD3 (sc Z 0 (nI 0)) (mD2 (sc Z 0 (nI 0)) (mD1 (sc Z 0 (nI 0)) ln 14) 20) 6) k) (((Z 2) (k + 6)).toInt64) ) (cwV 1 hts gX8_digest_X8_mix rfl rfl rfl (by decide +kernel) ⟨Nat.le_of_ble_eq_true rfl, Nat.le_of_ble_eq_true rfl⟩) ⟨hP, hD, hS, hA, hE, hK, rfl, rfl, rfl, rfl, by decide⟩ (va_recv hK hP (ci := 8) (q0 := 0) rfl rfl) rfl hl.1 rfl (Nat.le_of_ble_eq_true rfl) dX8_digest_91 ⟨Nat.le_of_ble_eq_true rfl, Nat.le_of_ble_eq_true rfl⟩ (fun H locs hP hD hS hz => ?_)
                          have hP : va_P G vwCl [(q 0, .inr (8, [.int (nI 0), .ref (q 2), .ref (q 3), .int (Z 0 3), .ref (q 5), .int (Z 0 5), .ref (q 7), .int (Z 0 7), .int (Z 0 8), .int (Z 0 9), .int (Z 0 10), .int (Z 0 11), .ref (q 13), .int (Z 0 13), .ref (q 15), .long (dMx (mD4 (sc Z 0 (nI 0)) (mD3 (sc Z 0 (nI 0)) (mD2 (sc Z 0 (nI 0)) (mD1 (sc Z 0 (nI 0)) ln 14) 20) 6) k) (((Z 2) (k + 6)).toInt64))])), (q 2, .inl (T 0, 267, .inl (Z 2))), (q 3, .inl (T 0, 1602, .inl (Z 3))), (q 5, .inl (T 0, 267, .inl (Z 5))), (q 7, .inl (T 0, 60, .inl (Z 7))), (q 13, .inl (T 0, 8, .inl (Z 13))), (q 15, .inl (T 0, 3, .inl (Z 15)))] H := hP
                          have hD : va_D A [(q 0, .inr (8, [.int (nI 0), .ref (q 2), .ref (q 3), .int (Z 0 3), .ref (q 5), .int (Z 0 5), .ref (q 7), .int (Z 0 7), .int (Z 0 8), .int (Z 0 9), .int (Z 0 10), .int (Z 0 11), .ref (q 13), .int (Z 0 13), .ref (q 15), .long (dMx (mD4 (sc Z 0 (nI 0)) (mD3 (sc Z 0 (nI 0)) (mD2 (sc Z 0 (nI 0)) (mD1 (sc Z 0 (nI 0)) ln 14) 20) 6) k) (((Z 2) (k + 6)).toInt64))])), (q 2, .inl (T 0, 267, .inl (Z 2))), (q 3, .inl (T 0, 1602, .inl (Z 3))), (q 5, .inl (T 0, 267, .inl (Z 5))), (q 7, .inl (T 0, 60, .inl (Z 7))), (q 13, .inl (T 0, 8, .inl (Z 13))), (q 15, .inl (T 0, 3, .inl (Z 15)))] := hD
                          refine lv_iinc (v := nI (k + 6 + 1)) (lv' := [(1, .int (nI (k + 6 + 1))), (0, .ref (q 0))]) hx hb dX8_digest_94 hl (k := 0) rfl (n_inc (k + 6) 1 rfl) (by decide) rfl (fun ls hl => ?_)
                          refine lv_goto (tgt := 77) hx hb dX8_digest_97 (by decide) ?_
                          have e_22 : (nI (k + 6 + 1)) = nI ((k + 1) + 6) := rfl
                          have e_23 : (dMx (mD4 (sc Z 0 (nI 0)) (mD3 (sc Z 0 (nI 0)) (mD2 (sc Z 0 (nI 0)) (mD1 (sc Z 0 (nI 0)) ln 14) 20) 6) k) (((Z 2) (k + 6)).toInt64)) = mD4 (sc Z 0 (nI 0)) (mD3 (sc Z 0 (nI 0)) (mD2 (sc Z 0 (nI 0)) (mD1 (sc Z 0 (nI 0)) ln 14) 20) 6) (k + 1) := rfl
                          exact ih77 (k + 1) (by omega) (by omega) _ _ e_22 e_23 _ _ hP hD hS _ (lv_sub hl [0, 1] rfl)
                    exact L77_i_12 (8 + 1) 0 (by omega) (by omega) _ _ rfl rfl _ _ hP hD hS _ (lv_sub hl [0, 1] rfl)
                  · skip
                    refine lv_aload_n hx hb dX8_digest_63 rfl (lv_at hl 1 rfl) ?_
                    refine lv_iload_n hx hb dX8_digest_64 rfl (lv_at hl 0 rfl) ?_
                    refine k_rvV (As := [.int (nI k)]) (rest := []) (wc := oX8 T q (sc Z 0 (nI 0)) (mD3 (sc Z 0 (nI 0)) (mD2 (sc Z 0 (nI 0)) (mD1 (sc Z 0 (nI 0)) ln 14) 20) k)) (wr := []) (w1 := oX8 T q (sc Z 0 (nI 0)) (mxR (sc Z 0 (nI 0)) k (mD3 (sc Z 0 (nI 0)) (mD2 (sc Z 0 (nI 0)) (mD1 (sc Z 0 (nI 0)) ln 14) 20) k))) (d := 6) (mc := 0) (ms := 0) (isC := [0, 1, 2, 3, 4, 5, 6]) (isR := []) cx (c_X8_mixRoom l G T H.size q (sc Z 0 (nI 0)) (mD3 (sc Z 0 (nI 0)) (mD2 (sc Z 0 (nI 0)) (mD1 (sc Z 0 (nI 0)) ln 14) 20) k) k (by omega)) (cwV 1 hts gX8_digest_X8_mixRoom rfl rfl rfl (by decide +kernel) ⟨Nat.le_of_ble_eq_true rfl, Nat.le_of_ble_eq_true rfl⟩) ⟨hP, hD, hS, hA, hE, hK, rfl, rfl, rfl, rfl, by decide⟩ (va_recv hK hP (ci := 8) (q0 := 0) rfl rfl) rfl hl.1 rfl (Nat.le_of_ble_eq_true rfl) dX8_digest_65 ⟨Nat.le_of_ble_eq_true rfl, Nat.le_of_ble_eq_true rfl⟩ (fun H locs hP hD hS hz => ?_)
                    have hP : va_P G vwCl [(q 0, .inr (8, [.int (nI 0), .ref (q 2), .ref (q 3), .int (Z 0 3), .ref (q 5), .int (Z 0 5), .ref (q 7), .int (Z 0 7), .int (Z 0 8), .int (Z 0 9), .int (Z 0 10), .int (Z 0 11), .ref (q 13), .int (Z 0 13), .ref (q 15), .long (mxR (sc Z 0 (nI 0)) k (mD3 (sc Z 0 (nI 0)) (mD2 (sc Z 0 (nI 0)) (mD1 (sc Z 0 (nI 0)) ln 14) 20) k))])), (q 2, .inl (T 0, 267, .inl (Z 2))), (q 3, .inl (T 0, 1602, .inl (Z 3))), (q 5, .inl (T 0, 267, .inl (Z 5))), (q 7, .inl (T 0, 60, .inl (Z 7))), (q 13, .inl (T 0, 8, .inl (Z 13))), (q 15, .inl (T 0, 3, .inl (Z 15)))] H := hP
                    have hD : va_D A [(q 0, .inr (8, [.int (nI 0), .ref (q 2), .ref (q 3), .int (Z 0 3), .ref (q 5), .int (Z 0 5), .ref (q 7), .int (Z 0 7), .int (Z 0 8), .int (Z 0 9), .int (Z 0 10), .int (Z 0 11), .ref (q 13), .int (Z 0 13), .ref (q 15), .long (mxR (sc Z 0 (nI 0)) k (mD3 (sc Z 0 (nI 0)) (mD2 (sc Z 0 (nI 0)) (mD1 (sc Z 0 (nI 0)) ln 14) 20) k))])), (q 2, .inl (T 0, 267, .inl (Z 2))), (q 3, .inl (T 0, 1602, .inl (Z 3))), (q 5, .inl (T 0, 267, .inl (Z 5))), (q 7, .inl (T 0, 60, .inl (Z 7))), (q 13, .inl (T 0, 8, .inl (Z 13))), (q 15, .inl (T 0, 3, .inl (Z 15)))] := hD
                    refine lv_iinc (v := nI (k + 1)) (lv' := [(1, .int (nI (k + 1))), (0, .ref (q 0))]) hx hb dX8_digest_68 hl (k := 0) rfl (n_inc k 1 rfl) (by decide) rfl (fun ls hl => ?_)
                    refine lv_goto (tgt := 57) hx hb dX8_digest_71 (by decide) ?_
                    have e_24 : (mxR (sc Z 0 (nI 0)) k (mD3 (sc Z 0 (nI 0)) (mD2 (sc Z 0 (nI 0)) (mD1 (sc Z 0 (nI 0)) ln 14) 20) k)) = mD3 (sc Z 0 (nI 0)) (mD2 (sc Z 0 (nI 0)) (mD1 (sc Z 0 (nI 0)) ln 14) 20) (k + 1) := rfl
                    exact ih57 (k + 1) (by omega) (by omega) _ _ rfl e_24 _ _ hP hD hS _ (lv_sub hl [0, 1] rfl)
              exact L57_i_8 (6 + 1) 0 (by omega) (by omega) _ _ rfl rfl _ _ hP hD hS _ (lv_sub hl [0, 1] rfl)
            · skip
              refine lv_aload_n hx hb dX8_digest_44 rfl (lv_at hl 1 rfl) ?_
              refine lv_iload_n hx hb dX8_digest_45 rfl (lv_at hl 0 rfl) ?_
              refine k_rvV (As := [.int (nI k)]) (rest := []) (wc := oX8 T q (sc Z 0 (nI 0)) (mD2 (sc Z 0 (nI 0)) (mD1 (sc Z 0 (nI 0)) ln 14) k)) (wr := []) (w1 := oX8 T q (sc Z 0 (nI 0)) (mxM (sc Z 0 (nI 0)) k (mD2 (sc Z 0 (nI 0)) (mD1 (sc Z 0 (nI 0)) ln 14) k))) (d := 6) (mc := 0) (ms := 0) (isC := [0, 1, 2, 3, 4, 5, 6]) (isR := []) cx (c_X8_mixMessage l G T H.size q (sc Z 0 (nI 0)) (mD2 (sc Z 0 (nI 0)) (mD1 (sc Z 0 (nI 0)) ln 14) k) k (by omega)) (cwV 1 hts gX8_digest_X8_mixMessage rfl rfl rfl (by decide +kernel) ⟨Nat.le_of_ble_eq_true rfl, Nat.le_of_ble_eq_true rfl⟩) ⟨hP, hD, hS, hA, hE, hK, rfl, rfl, rfl, rfl, by decide⟩ (va_recv hK hP (ci := 8) (q0 := 0) rfl rfl) rfl hl.1 rfl (Nat.le_of_ble_eq_true rfl) dX8_digest_46 ⟨Nat.le_of_ble_eq_true rfl, Nat.le_of_ble_eq_true rfl⟩ (fun H locs hP hD hS hz => ?_)
              have hP : va_P G vwCl [(q 0, .inr (8, [.int (nI 0), .ref (q 2), .ref (q 3), .int (Z 0 3), .ref (q 5), .int (Z 0 5), .ref (q 7), .int (Z 0 7), .int (Z 0 8), .int (Z 0 9), .int (Z 0 10), .int (Z 0 11), .ref (q 13), .int (Z 0 13), .ref (q 15), .long (mxM (sc Z 0 (nI 0)) k (mD2 (sc Z 0 (nI 0)) (mD1 (sc Z 0 (nI 0)) ln 14) k))])), (q 2, .inl (T 0, 267, .inl (Z 2))), (q 3, .inl (T 0, 1602, .inl (Z 3))), (q 5, .inl (T 0, 267, .inl (Z 5))), (q 7, .inl (T 0, 60, .inl (Z 7))), (q 13, .inl (T 0, 8, .inl (Z 13))), (q 15, .inl (T 0, 3, .inl (Z 15)))] H := hP
              have hD : va_D A [(q 0, .inr (8, [.int (nI 0), .ref (q 2), .ref (q 3), .int (Z 0 3), .ref (q 5), .int (Z 0 5), .ref (q 7), .int (Z 0 7), .int (Z 0 8), .int (Z 0 9), .int (Z 0 10), .int (Z 0 11), .ref (q 13), .int (Z 0 13), .ref (q 15), .long (mxM (sc Z 0 (nI 0)) k (mD2 (sc Z 0 (nI 0)) (mD1 (sc Z 0 (nI 0)) ln 14) k))])), (q 2, .inl (T 0, 267, .inl (Z 2))), (q 3, .inl (T 0, 1602, .inl (Z 3))), (q 5, .inl (T 0, 267, .inl (Z 5))), (q 7, .inl (T 0, 60, .inl (Z 7))), (q 13, .inl (T 0, 8, .inl (Z 13))), (q 15, .inl (T 0, 3, .inl (Z 15)))] := hD
              refine lv_iinc (v := nI (k + 1)) (lv' := [(1, .int (nI (k + 1))), (0, .ref (q 0))]) hx hb dX8_digest_49 hl (k := 0) rfl (n_inc k 1 rfl) (by decide) rfl (fun ls hl => ?_)
              refine lv_goto (tgt := 38) hx hb dX8_digest_52 (by decide) ?_
              have e_25 : (mxM (sc Z 0 (nI 0)) k (mD2 (sc Z 0 (nI 0)) (mD1 (sc Z 0 (nI 0)) ln 14) k)) = mD2 (sc Z 0 (nI 0)) (mD1 (sc Z 0 (nI 0)) ln 14) (k + 1) := rfl
              exact ih38 (k + 1) (by omega) (by omega) _ _ rfl e_25 _ _ hP hD hS _ (lv_sub hl [0, 1] rfl)
        exact L38_i_4 (20 + 1) 0 (by omega) (by omega) _ _ rfl rfl _ _ hP hD hS _ (lv_sub hl [0, 1] rfl)
      · skip
        refine lv_aload_n hx hb dX8_digest_20 rfl (lv_at hl 1 rfl) ?_
        refine lv_aload_n hx hb dX8_digest_21 rfl (lv_at hl 1 rfl) ?_
        refine lv_iload_n hx hb dX8_digest_22 rfl (lv_at hl 0 rfl) ?_
        refine k_roV (As := [.int (nI k)]) (rest := [.ref (q 0)]) (wc := oX8 T q (sc Z 0 (nI 0)) (mD1 (sc Z 0 (nI 0)) ln k)) (d := 4) (v := mTC (sc Z 0 (nI 0)) ln k) cx (c_X8_tellsCount l G T A q (sc Z 0 (nI 0)) (mD1 (sc Z 0 (nI 0)) ln k) ln k (by first | assumption | rfl | omega) hln8 (by omega)) (cwV 1 hts gX8_digest_X8_tellsCount rfl rfl rfl (by decide +kernel) ⟨Nat.le_of_ble_eq_true rfl, Nat.le_of_ble_eq_true rfl⟩) hP hK (hE.kept hS.2.1) (va_recv hK hP (ci := 8) (q0 := 0) rfl rfl) rfl hl.1 rfl (Nat.le_of_ble_eq_true rfl) dX8_digest_23 ⟨Nat.le_of_ble_eq_true rfl, Nat.le_of_ble_eq_true rfl⟩ ?_
        refine lv_i2l (v := (mTC (sc Z 0 (nI 0)) ln k).toInt64) hx hb dX8_digest_26 rfl ?_
        refine k_rvV (As := [.long ((mTC (sc Z 0 (nI 0)) ln k).toInt64)]) (rest := []) (wc := oX8 T q (sc Z 0 (nI 0)) (mD1 (sc Z 0 (nI 0)) ln k)) (wr := []) (w1 := oX8 T q (sc Z 0 (nI 0)) (dMx (mD1 (sc Z 0 (nI 0)) ln k) ((mTC (sc Z 0 (nI 0)) ln k).toInt64))) (d := 0) (mc := 0) (ms := 0) (isC := [0, 1, 2, 3, 4, 5, 6]) (isR := []) cx (c_X8_mix l G T H.size q (sc Z 0 (nI 0)) (mD1 (sc Z 0 (nI 0)) ln k) ((mTC (sc Z 0 (nI 0)) ln k).toInt64) ) (cwV 1 hts gX8_digest_X8_mix rfl rfl rfl (by decide +kernel) ⟨Nat.le_of_ble_eq_true rfl, Nat.le_of_ble_eq_true rfl⟩) ⟨hP, hD, hS, hA, hE, hK, rfl, rfl, rfl, rfl, by decide⟩ (va_recv hK hP (ci := 8) (q0 := 0) rfl rfl) rfl hl.1 rfl (Nat.le_of_ble_eq_true rfl) dX8_digest_27 ⟨Nat.le_of_ble_eq_true rfl, Nat.le_of_ble_eq_true rfl⟩ (fun H locs hP hD hS hz => ?_)
        have hP : va_P G vwCl [(q 0, .inr (8, [.int (nI 0), .ref (q 2), .ref (q 3), .int (Z 0 3), .ref (q 5), .int (Z 0 5), .ref (q 7), .int (Z 0 7), .int (Z 0 8), .int (Z 0 9), .int (Z 0 10), .int (Z 0 11), .ref (q 13), .int (Z 0 13), .ref (q 15), .long (dMx (mD1 (sc Z 0 (nI 0)) ln k) ((mTC (sc Z 0 (nI 0)) ln k).toInt64))])), (q 2, .inl (T 0, 267, .inl (Z 2))), (q 3, .inl (T 0, 1602, .inl (Z 3))), (q 5, .inl (T 0, 267, .inl (Z 5))), (q 7, .inl (T 0, 60, .inl (Z 7))), (q 13, .inl (T 0, 8, .inl (Z 13))), (q 15, .inl (T 0, 3, .inl (Z 15)))] H := hP
        have hD : va_D A [(q 0, .inr (8, [.int (nI 0), .ref (q 2), .ref (q 3), .int (Z 0 3), .ref (q 5), .int (Z 0 5), .ref (q 7), .int (Z 0 7), .int (Z 0 8), .int (Z 0 9), .int (Z 0 10), .int (Z 0 11), .ref (q 13), .int (Z 0 13), .ref (q 15), .long (dMx (mD1 (sc Z 0 (nI 0)) ln k) ((mTC (sc Z 0 (nI 0)) ln k).toInt64))])), (q 2, .inl (T 0, 267, .inl (Z 2))), (q 3, .inl (T 0, 1602, .inl (Z 3))), (q 5, .inl (T 0, 267, .inl (Z 5))), (q 7, .inl (T 0, 60, .inl (Z 7))), (q 13, .inl (T 0, 8, .inl (Z 13))), (q 15, .inl (T 0, 3, .inl (Z 15)))] := hD
        refine lv_iinc (v := nI (k + 1)) (lv' := [(1, .int (nI (k + 1))), (0, .ref (q 0))]) hx hb dX8_digest_30 hl (k := 0) rfl (n_inc k 1 rfl) (by decide) rfl (fun ls hl => ?_)
        refine lv_goto (tgt := 14) hx hb dX8_digest_33 (by decide) ?_
        have e_26 : (dMx (mD1 (sc Z 0 (nI 0)) ln k) ((mTC (sc Z 0 (nI 0)) ln k).toInt64)) = mD1 (sc Z 0 (nI 0)) ln (k + 1) := rfl
        exact ih14 (k + 1) (by omega) (by omega) _ _ rfl e_26 _ _ hP hD hS _ (lv_sub hl [0, 1] rfl)
  exact L14 (14 + 1) 0 (by omega) (by omega) _ _ rfl rfl _ _ hP hD hS _ (lv_sub hl [0, 1] rfl)
