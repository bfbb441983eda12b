/-! the reference's tellers: what they answer (pure), then their contracts (printed by wip/whole/s54.py) -/
theorem pWi_n {a b m : Nat} (h1 : a ≤ m) (h2 : m ≤ b) (hb : b < 2 ^ 31) : pWi (nI m) (nI a) (nI b) = true := by
  unfold pWi
  refine decide_eq_true ⟨fun q => ?_, fun q => ?_⟩
  · have := nI_lt' (by omega) (by omega) q
    omega
  · have := nI_lt' (by omega) (by omega) q
    omega
def mFb (Z : Nat → Nat → Int32) (m : Nat) : Nat → Int32 | 0 => nI 0 | k + 1 => mFb Z m k ||| iShl (iShr (Z 2 (44 + k)) (nI m) &&& nI 1) (nI k)
def mTM (Z : Nat → Nat → Int32) (m : Nat) : Nat → Int32 | 0 => Z 2 (47 + 11 * m) | 1 => mFb Z m 3 | 2 => Z 2 (47 + 11 * m + 1) | _ => Z 2 (47 + 11 * m + 2)
def mTN (Z : Nat → Nat → Int32) (m pl : Nat) : Int32 := if Z 2 (47 + 11 * m) ≤ nI pl then -1 else Z 2 (47 + 11 * m + (3 + pl))
def mTR (Z : Nat → Nat → Int32) (r : Nat) : Nat → Int32 | 0 => Z 2 (14 + 5 * r) | 1 => Z 2 (14 + 5 * r + 1) | 2 => Z 2 (14 + 5 * r + 2) | 3 => bI (mSi Z r) | 4 => Z 2 (14 + 5 * r + 3) | _ => Z 2 (14 + 5 * r + 4)
def mWn (Z : Nat → Nat → Int32) : Nat → Nat | 0 => 0 | k + 1 => mWn Z k + (if Z 2 (47 + 11 * k) ≤ 0 then 0 else 1)
def mMo (Z : Nat → Nat → Int32) : Nat → Int32 | 0 => nI 0 | k + 1 => if Z 2 (47 + 11 * k) ≤ mMo Z k then mMo Z k else Z 2 (47 + 11 * k)
def mSu (Z : Nat → Nat → Int32) (w : Nat) : Nat → Int32 | 0 => nI 0 | k + 1 => mSu Z w k + mTR Z k w
def mWk (Z : Nat → Nat → Int32) : Nat → Int32 | 0 => nI 0 | k + 1 => mWk Z k ||| (if Z 2 (14 + 5 * k) = Z 2 1 then iShl (nI 1) (nI k) else nI 0)
def mTC (Z : Nat → Nat → Int32) (ln : Nat → Nat) : Nat → Int32 | 0 => Z 2 0 | 1 => Z 2 1 | 2 => nI (mWn Z 20) | 3 => nI (mNd Z ln 20) | 4 => mMo Z 20 | 5 => Z 2 2 | 6 => mSu Z 2 6 | 7 => mSu Z 3 6 | 8 => Z 2 5 | 9 => mSu Z 1 6 | 10 => mWk Z 6 | 11 => Z 2 3 | 12 => Z 2 4 | _ => Z 0 3
def mFkP (Z : Nat → Nat → Int32) (n k : Nat) : Bool := !decide (mDe Z n (nI k) = -1)
def mFk (Z : Nat → Nat → Int32) (n : Nat) : Int32 := mFind (mFkP Z n) 7 0
def mWB (Z : Nat → Nat → Int32) (r m w : Nat) : Int32 := if mWy Z r m = 0 then (if w = 0 then mHe Z r 6 else if w = 1 then mKn Z r 6 else if w = 2 then mCa Z r m 3 else mRa Z r m) else -1
def mFc (Z : Nat → Nat → Int32) (m k : Nat) : Bool := decide (mWy Z k m = 0) && decide (mCa Z k m 3 = 0)
def mFm (Z : Nat → Nat → Int32) (m k : Nat) (p : Int32 × Int32) : Bool := mFc Z m k && (decide (p.1 = -1) || !decide (mOn (mKn Z k 6) 6 ≤ p.2))
def mFr (Z : Nat → Nat → Int32) (m : Nat) : Nat → Int32 × Int32 | 0 => (-1, nI 0) | k + 1 => if mFm Z m k (mFr Z m k) = true then (nI k, mOn (mKn Z k 6) 6) else mFr Z m k

set_option maxHeartbeats 4000000 in
set_option maxRecDepth 100000 in
theorem c_X8_forbidders (l : Launch) (G : va_G) (T : Nat → ClassId) (A : Nat → Prop) (q : Nat → Nat) (Z : Nat → Nat → Int32) (g : Int64) (mm : Nat) (hm20 : mm < 20) : RO l yX8_forbidders wsX8_forbidders 0 G T A (oX8 T q Z g) [.ref (q 0), .int (nI mm)] (mFb Z mm 3) := by
  refine Met.ofW (cc := cX8_forbidders) (maxL := 4) (ret := (some .int)) (by decide) rfl ?_
  intro p e s m args below meth c s₁ B hml hv
  obtain ⟨ha, hP, hK, hE⟩ := hv
  have hx := B.exec
  have hb := B.bytes
  have hr := B.returns
  have hlocks := B.notSynchronized
  have hts := atoms_spec (ws := wsX8_forbidders) B.pre
  have hown : s.vm.findClass RX8 = some m.cls := findClass_of_methodNamed B.named
  have cx : CallFix p m c cX8_forbidders 4 s args wsX8_forbidders RX8 := ⟨hx, hb, hml, hown, hts⟩
  refine w_entry ha (Nat.le_of_ble_eq_true rfl) (fun ls hl => ?_)
  refine w_q (fun Q0 hQ => ?_)
  have lk7 := hts (.fieldLink RX8 7 "WhistleTunesModel" "state" "[I") (by decide +kernel)
  have hinX8 : ∀ w ∈ wsX80, w ∈ wsX8_forbidders := by decide +kernel
  have hl : lv_has ls 4 [(0, .ref (q 0)), (1, .int (nI mm))] := hl
  have hP : va_P G vwCl [(q 0, .inr (8, [.int (Z 0 0), .ref (q 2), .ref (q 3), .int (Z 0 3), .ref (q 5), .int (Z 0 5), .ref (q 7), .int (Z 0 7), .int (Z 0 8), .int (Z 0 9), .int (Z 0 10), .int (Z 0 11), .ref (q 13), .int (Z 0 13), .ref (q 15), .long g])), (q 2, .inl (T 0, 267, .inl (Z 2))), (q 3, .inl (T 0, 1602, .inl (Z 3))), (q 5, .inl (T 0, 267, .inl (Z 5))), (q 7, .inl (T 0, 60, .inl (Z 7))), (q 13, .inl (T 0, 8, .inl (Z 13))), (q 15, .inl (T 0, 3, .inl (Z 15)))] s.heap := hP
  refine n_iconst hx hb 0 dX8_forbidders_0 (by decide) ?_
  refine lv_istore_n (lv' := [(2, .int (nI 0)), (0, .ref (q 0)), (1, .int (nI mm))]) hx hb dX8_forbidders_1 rfl hl (by decide) rfl (fun ls hl => ?_)
  refine n_iconst hx hb 0 dX8_forbidders_2 (by decide) ?_
  refine lv_istore_n (lv' := [(3, .int (nI 0)), (2, .int (nI 0)), (0, .ref (q 0)), (1, .int (nI mm))]) hx hb dX8_forbidders_3 rfl hl (by decide) rfl (fun ls hl => ?_)
  have L4 : ∀ (n9 k : Nat) (hk1 : k ≤ 3) (hk2 : 3 - k < n9) (x3 : Int32) (x2 : Int32) (hx3 : x3 = nI k) (hx2 : x2 = mFb Z mm k) (ls : Array Slot) (hl : lv_has ls 4 [(3, .int x3), (2, .int x2), (0, .ref (q 0)), (1, .int (nI mm))]), W p l e (headSpec wsX8_forbidders (rmD 0 0 0)).room s m args below meth c s.heap [] 0 0 Q0 (F0 m 4 ls []) := by
    intro n9
    induction n9 with
    | zero => intros; omega
    | succ n9 ih4 =>
      intro k hk1 hk2 x3 x2 hx3 hx2 ls hl
      subst hx3 hx2
      refine lv_iload_n hx hb dX8_forbidders_4 rfl (lv_at hl 0 rfl) ?_
      refine n_iconst hx hb 3 dX8_forbidders_5 (by decide) ?_
      refine n_icmp_ge (a := k) (b := 3) (tgt := 33) hx hb (by omega) (by decide) dX8_forbidders_6 (by decide) (fun c_1 => ?_) (fun c_2 => ?_)
      · skip
        refine lv_iload_n hx hb dX8_forbidders_33 rfl (lv_at hl 1 rfl) ?_
        subst hQ
        exact e_ro hx hb hr hlocks (by obtain rfl : k = 3 := (by omega); rfl) dX8_forbidders_34
      · skip
        refine lv_iload_n hx hb dX8_forbidders_9 rfl (lv_at hl 1 rfl) ?_
        refine lv_aload_n hx hb dX8_forbidders_10 rfl (lv_at hl 2 rfl) ?_
        refine va_get (D := G) (ci := 8) (v := .ref (q 2)) (C := RX8) (T := TX8) (N := 16) hx hb hts hinX8 hown hK hP 0 rfl rfl 1 (by decide) lk7 (fun _ h9 => h9) rfl dX8_forbidders_11 ?_
        refine lv_bipush (v := nI 44) hx hb dX8_forbidders_14 (by decide) ?_
        refine lv_iload_n hx hb dX8_forbidders_16 rfl (lv_at hl 0 rfl) ?_
        refine n_iadd (a := 44) (b := k) hx hb dX8_forbidders_17 ?_
        refine n_iald hx hb hK hP 1 0 rfl rfl (44 + k) (by omega) (by decide) dX8_forbidders_18 ?_
        refine lv_iload_n hx hb dX8_forbidders_19 rfl (lv_at hl 3 rfl) ?_
        refine x_ishr hx hb dX8_forbidders_20 ?_
        refine n_iconst hx hb 1 dX8_forbidders_21 (by decide) ?_
        refine lv_iand hx hb dX8_forbidders_22 ?_
        refine lv_iload_n hx hb dX8_forbidders_23 rfl (lv_at hl 0 rfl) ?_
        refine x_ishl hx hb dX8_forbidders_24 ?_
        refine lv_ior hx hb dX8_forbidders_25 ?_
        refine lv_istore_n (lv' := [(2, .int ((mFb Z mm k) ||| (iShl ((iShr ((Z 2) (44 + k)) (nI mm)) &&& (nI 1)) (nI k)))), (3, .int (nI k)), (0, .ref (q 0)), (1, .int (nI mm))]) hx hb dX8_forbidders_26 rfl hl (by decide) rfl (fun ls hl => ?_)
        refine lv_iinc (v := nI (k + 1)) (lv' := [(3, .int (nI (k + 1))), (2, .int ((mFb Z mm k) ||| (iShl ((iShr ((Z 2) (44 + k)) (nI mm)) &&& (nI 1)) (nI k)))), (0, .ref (q 0)), (1, .int (nI mm))]) hx hb dX8_forbidders_27 hl (k := 1) rfl (n_inc k 1 rfl) (by decide) rfl (fun ls hl => ?_)
        refine lv_goto (tgt := 4) hx hb dX8_forbidders_30 (by decide) ?_
        have e_3 : ((mFb Z mm k) ||| (iShl ((iShr ((Z 2) (44 + k)) (nI mm)) &&& (nI 1)) (nI k))) = mFb Z mm (k + 1) := rfl
        exact ih4 (k + 1) (by omega) (by omega) _ _ rfl e_3 _ (lv_sub hl [0, 1, 2, 3] rfl)
  exact L4 (3 + 1) 0 (by omega) (by omega) _ _ rfl rfl _ (lv_sub hl [0, 1, 2, 3] rfl)
set_option maxHeartbeats 4000000 in
set_option maxRecDepth 100000 in
theorem c_X8_tellsMessage (l : Launch) (G : va_G) (T : Nat → ClassId) (A : Nat → Prop) (q : Nat → Nat) (Z : Nat → Nat → Int32) (g : Int64) (mm : Nat) (w : Nat) (hm20 : mm < 20) (hw : w ≤ 3) : RO l yX8_tellsMessage wsX8_tellsMessage 1 G T A (oX8 T q Z g) [.ref (q 0), .int (nI mm), .int (nI w)] (mTM Z mm w) := by
  refine Met.ofW (cc := cX8_tellsMessage) (maxL := 3) (ret := (some .int)) (by decide) rfl ?_
  intro p e s m args below meth c s₁ B hml hv
  obtain ⟨ha, hP, hK, hE⟩ := hv
  have hx := B.exec
  have hb := B.bytes
  have hr := B.returns
  have hlocks := B.notSynchronized
  have hts := atoms_spec (ws := wsX8_tellsMessage) B.pre
  have hown : s.vm.findClass RX8 = some m.cls := findClass_of_methodNamed B.named
  have cx : CallFix p m c cX8_tellsMessage 3 s args wsX8_tellsMessage RX8 := ⟨hx, hb, hml, hown, hts⟩
  refine w_entry ha (Nat.le_of_ble_eq_true rfl) (fun ls hl => ?_)
  refine w_q (fun Q0 hQ => ?_)
  have hl : lv_has ls 3 [(0, .ref (q 0)), (1, .int (nI mm)), (2, .int (nI w))] := hl
  have hP : va_P G vwCl [(q 0, .inr (8, [.int (Z 0 0), .ref (q 2), .ref (q 3), .int (Z 0 3), .ref (q 5), .int (Z 0 5), .ref (q 7), .int (Z 0 7), .int (Z 0 8), .int (Z 0 9), .int (Z 0 10), .int (Z 0 11), .ref (q 13), .int (Z 0 13), .ref (q 15), .long g])), (q 2, .inl (T 0, 267, .inl (Z 2))), (q 3, .inl (T 0, 1602, .inl (Z 3))), (q 5, .inl (T 0, 267, .inl (Z 5))), (q 7, .inl (T 0, 60, .inl (Z 7))), (q 13, .inl (T 0, 8, .inl (Z 13))), (q 15, .inl (T 0, 3, .inl (Z 15)))] s.heap := hP
  refine lv_iload_n hx hb dX8_tellsMessage_0 rfl (lv_at hl 2 rfl) ?_
  rcases (show w = 0 ∨ w = 1 ∨ w = 2 ∨ w = 3 by omega) with rfl | rfl | rfl | rfl
  · skip
    refine n_tab (a := 0) (off := 27) (tgt := 28) hx hb (by decide) dX8_tellsMessage_1 (by decide) (by decide) rfl (by decide) ?_
    refine lv_aload_n hx hb dX8_tellsMessage_28 rfl (lv_at hl 0 rfl) ?_
    refine lv_iload_n hx hb dX8_tellsMessage_29 rfl (lv_at hl 1 rfl) ?_
    refine n_iconst hx hb 0 dX8_tellsMessage_30 (by decide) ?_
    refine k_roV (As := [.int (nI mm), .int (nI 0)]) (rest := []) (wc := oX8 T q Z g) (d := 0) (v := (Z 2) (47 + 11 * mm)) cx (c_X8_ofMessage l G T A q Z g mm 0 (by omega) (by omega)) (cwV 2 hts gX8_tellsMessage_X8_ofMessage rfl rfl rfl (by decide +kernel) ⟨Nat.le_of_ble_eq_true rfl, Nat.le_of_ble_eq_true rfl⟩) hP hK hE (va_recv hK hP (ci := 8) (q0 := 0) rfl rfl) rfl hl.1 rfl (Nat.le_of_ble_eq_true rfl) dX8_tellsMessage_31 ⟨Nat.le_of_ble_eq_true rfl, Nat.le_of_ble_eq_true rfl⟩ ?_
    subst hQ
    exact e_ro hx hb hr hlocks rfl dX8_tellsMessage_34
  · skip
    refine n_tab (a := 1) (off := 34) (tgt := 35) hx hb (by decide) dX8_tellsMessage_1 (by decide) (by decide) rfl (by decide) ?_
    refine lv_aload_n hx hb dX8_tellsMessage_35 rfl (lv_at hl 0 rfl) ?_
    refine lv_iload_n hx hb dX8_tellsMessage_36 rfl (lv_at hl 1 rfl) ?_
    refine k_roV (As := [.int (nI mm)]) (rest := []) (wc := oX8 T q Z g) (d := 0) (v := mFb Z mm 3) cx (c_X8_forbidders l G T A q Z g mm (by omega)) (cwV 1 hts gX8_tellsMessage_X8_forbidders rfl rfl rfl (by decide +kernel) ⟨Nat.le_of_ble_eq_true rfl, Nat.le_of_ble_eq_true rfl⟩) hP hK hE (va_recv hK hP (ci := 8) (q0 := 0) rfl rfl) rfl hl.1 rfl (Nat.le_of_ble_eq_true rfl) dX8_tellsMessage_37 ⟨Nat.le_of_ble_eq_true rfl, Nat.le_of_ble_eq_true rfl⟩ ?_
    subst hQ
    exact e_ro hx hb hr hlocks rfl dX8_tellsMessage_40
  · skip
    refine n_tab (a := 2) (off := 40) (tgt := 41) hx hb (by decide) dX8_tellsMessage_1 (by decide) (by decide) rfl (by decide) ?_
    refine lv_aload_n hx hb dX8_tellsMessage_41 rfl (lv_at hl 0 rfl) ?_
    refine lv_iload_n hx hb dX8_tellsMessage_42 rfl (lv_at hl 1 rfl) ?_
    refine n_iconst hx hb 1 dX8_tellsMessage_43 (by decide) ?_
    refine k_roV (As := [.int (nI mm), .int (nI 1)]) (rest := []) (wc := oX8 T q Z g) (d := 0) (v := (Z 2) (47 + 11 * mm + 1)) cx (c_X8_ofMessage l G T A q Z g mm 1 (by omega) (by omega)) (cwV 2 hts gX8_tellsMessage_X8_ofMessage rfl rfl rfl (by decide +kernel) ⟨Nat.le_of_ble_eq_true rfl, Nat.le_of_ble_eq_true rfl⟩) hP hK hE (va_recv hK hP (ci := 8) (q0 := 0) rfl rfl) rfl hl.1 rfl (Nat.le_of_ble_eq_true rfl) dX8_tellsMessage_44 ⟨Nat.le_of_ble_eq_true rfl, Nat.le_of_ble_eq_true rfl⟩ ?_
    subst hQ
    exact e_ro hx hb hr hlocks rfl dX8_tellsMessage_47
  · skip
    refine n_tabO (tgt := 48) hx hb dX8_tellsMessage_1 0 3 (by decide) rfl rfl (by decide) ?_
    refine lv_aload_n hx hb dX8_tellsMessage_48 rfl (lv_at hl 0 rfl) ?_
    refine lv_iload_n hx hb dX8_tellsMessage_49 rfl (lv_at hl 1 rfl) ?_
    refine n_iconst hx hb 2 dX8_tellsMessage_50 (by decide) ?_
    refine k_roV (As := [.int (nI mm), .int (nI 2)]) (rest := []) (wc := oX8 T q Z g) (d := 0) (v := (Z 2) (47 + 11 * mm + 2)) cx (c_X8_ofMessage l G T A q Z g mm 2 (by omega) (by omega)) (cwV 2 hts gX8_tellsMessage_X8_ofMessage rfl rfl rfl (by decide +kernel) ⟨Nat.le_of_ble_eq_true rfl, Nat.le_of_ble_eq_true rfl⟩) hP hK hE (va_recv hK hP (ci := 8) (q0 := 0) rfl rfl) rfl hl.1 rfl (Nat.le_of_ble_eq_true rfl) dX8_tellsMessage_51 ⟨Nat.le_of_ble_eq_true rfl, Nat.le_of_ble_eq_true rfl⟩ ?_
    subst hQ
    exact e_ro hx hb hr hlocks rfl dX8_tellsMessage_54
set_option maxHeartbeats 4000000 in
set_option maxRecDepth 100000 in
theorem c_X8_tellsNote (l : Launch) (G : va_G) (T : Nat → ClassId) (A : Nat → Prop) (q : Nat → Nat) (Z : Nat → Nat → Int32) (g : Int64) (mm : Nat) (pl : Nat) (hm20 : mm < 20) (hpl : pl < 8) : RO l yX8_tellsNote wsX8_tellsNote 1 G T A (oX8 T q Z g) [.ref (q 0), .int (nI mm), .int (nI pl)] (mTN Z mm pl) := by
  refine Met.ofW (cc := cX8_tellsNote) (maxL := 3) (ret := (some .int)) (by decide) rfl ?_
  intro p e s m args below meth c s₁ B hml hv
  obtain ⟨ha, hP, hK, hE⟩ := hv
  have hx := B.exec
  have hb := B.bytes
  have hr := B.returns
  have hlocks := B.notSynchronized
  have hts := atoms_spec (ws := wsX8_tellsNote) B.pre
  have hown : s.vm.findClass RX8 = some m.cls := findClass_of_methodNamed B.named
  have cx : CallFix p m c cX8_tellsNote 3 s args wsX8_tellsNote RX8 := ⟨hx, hb, hml, hown, hts⟩
  refine w_entry ha (Nat.le_of_ble_eq_true rfl) (fun ls hl => ?_)
  refine w_q (fun Q0 hQ => ?_)
  have hl : lv_has ls 3 [(0, .ref (q 0)), (1, .int (nI mm)), (2, .int (nI pl))] := hl
  have hP : va_P G vwCl [(q 0, .inr (8, [.int (Z 0 0), .ref (q 2), .ref (q 3), .int (Z 0 3), .ref (q 5), .int (Z 0 5), .ref (q 7), .int (Z 0 7), .int (Z 0 8), .int (Z 0 9), .int (Z 0 10), .int (Z 0 11), .ref (q 13), .int (Z 0 13), .ref (q 15), .long g])), (q 2, .inl (T 0, 267, .inl (Z 2))), (q 3, .inl (T 0, 1602, .inl (Z 3))), (q 5, .inl (T 0, 267, .inl (Z 5))), (q 7, .inl (T 0, 60, .inl (Z 7))), (q 13, .inl (T 0, 8, .inl (Z 13))), (q 15, .inl (T 0, 3, .inl (Z 15)))] s.heap := hP
  refine lv_iload_n hx hb dX8_tellsNote_0 rfl (lv_at hl 2 rfl) ?_
  refine lv_aload_n hx hb dX8_tellsNote_1 rfl (lv_at hl 0 rfl) ?_
  refine lv_iload_n hx hb dX8_tellsNote_2 rfl (lv_at hl 1 rfl) ?_
  refine n_iconst hx hb 0 dX8_tellsNote_3 (by decide) ?_
  refine k_roV (As := [.int (nI mm), .int (nI 0)]) (rest := [.int (nI pl)]) (wc := oX8 T q Z g) (d := 0) (v := (Z 2) (47 + 11 * mm)) cx (c_X8_ofMessage l G T A q Z g mm 0 (by omega) (by omega)) (cwV 2 hts gX8_tellsNote_X8_ofMessage rfl rfl rfl (by decide +kernel) ⟨Nat.le_of_ble_eq_true rfl, Nat.le_of_ble_eq_true rfl⟩) hP hK hE (va_recv hK hP (ci := 8) (q0 := 0) rfl rfl) rfl hl.1 rfl (Nat.le_of_ble_eq_true rfl) dX8_tellsNote_4 ⟨Nat.le_of_ble_eq_true rfl, Nat.le_of_ble_eq_true rfl⟩ ?_
  refine lv_icmp_ge (tgt := 21) hx hb dX8_tellsNote_7 (by decide) (fun c_1 => ?_) (fun c_2 => ?_)
  · skip
    refine lv_iconst (v := -1) hx hb dX8_tellsNote_21 (by decide) ?_
    subst hQ
    exact e_ro hx hb hr hlocks (by unfold mTN; first | rw [if_pos c_1] | rw [if_neg c_1]) dX8_tellsNote_22
  · skip
    refine lv_aload_n hx hb dX8_tellsNote_10 rfl (lv_at hl 0 rfl) ?_
    refine lv_iload_n hx hb dX8_tellsNote_11 rfl (lv_at hl 1 rfl) ?_
    refine n_iconst hx hb 3 dX8_tellsNote_12 (by decide) ?_
    refine lv_iload_n hx hb dX8_tellsNote_13 rfl (lv_at hl 2 rfl) ?_
    refine n_iadd (a := 3) (b := pl) hx hb dX8_tellsNote_14 ?_
    refine k_roV (As := [.int (nI mm), .int (nI (3 + pl))]) (rest := []) (wc := oX8 T q Z g) (d := 0) (v := (Z 2) (47 + 11 * mm + (3 + pl))) cx (c_X8_ofMessage l G T A q Z g mm (3 + pl) (by omega) (by omega)) (cwV 2 hts gX8_tellsNote_X8_ofMessage rfl rfl rfl (by decide +kernel) ⟨Nat.le_of_ble_eq_true rfl, Nat.le_of_ble_eq_true rfl⟩) hP hK hE (va_recv hK hP (ci := 8) (q0 := 0) rfl rfl) rfl hl.1 rfl (Nat.le_of_ble_eq_true rfl) dX8_tellsNote_15 ⟨Nat.le_of_ble_eq_true rfl, Nat.le_of_ble_eq_true rfl⟩ ?_
    refine lv_goto (tgt := 22) hx hb dX8_tellsNote_18 (by decide) ?_
    subst hQ
    exact e_ro hx hb hr hlocks (by unfold mTN; first | rw [if_pos c_2] | rw [if_neg c_2]) dX8_tellsNote_22
set_option maxHeartbeats 4000000 in
set_option maxRecDepth 100000 in
theorem c_X8_tellsRoom (l : Launch) (G : va_G) (T : Nat → ClassId) (A : Nat → Prop) (q : Nat → Nat) (Z : Nat → Nat → Int32) (g : Int64) (r : Nat) (w : Nat) (hr6 : r < 6) (hw : w ≤ 5) : RO l yX8_tellsRoom wsX8_tellsRoom 2 G T A (oX8 T q Z g) [.ref (q 0), .int (nI r), .int (nI w)] (mTR Z r w) := by
  refine Met.ofW (cc := cX8_tellsRoom) (maxL := 3) (ret := (some .int)) (by decide) rfl ?_
  intro p e s m args below meth c s₁ B hml hv
  obtain ⟨ha, hP, hK, hE⟩ := hv
  have hx := B.exec
  have hb := B.bytes
  have hr := B.returns
  have hlocks := B.notSynchronized
  have hts := atoms_spec (ws := wsX8_tellsRoom) B.pre
  have hown : s.vm.findClass RX8 = some m.cls := findClass_of_methodNamed B.named
  have cx : CallFix p m c cX8_tellsRoom 3 s args wsX8_tellsRoom RX8 := ⟨hx, hb, hml, hown, hts⟩
  refine w_entry ha (Nat.le_of_ble_eq_true rfl) (fun ls hl => ?_)
  refine w_q (fun Q0 hQ => ?_)
  have hl : lv_has ls 3 [(0, .ref (q 0)), (1, .int (nI r)), (2, .int (nI w))] := hl
  have hP : va_P G vwCl [(q 0, .inr (8, [.int (Z 0 0), .ref (q 2), .ref (q 3), .int (Z 0 3), .ref (q 5), .int (Z 0 5), .ref (q 7), .int (Z 0 7), .int (Z 0 8), .int (Z 0 9), .int (Z 0 10), .int (Z 0 11), .ref (q 13), .int (Z 0 13), .ref (q 15), .long g])), (q 2, .inl (T 0, 267, .inl (Z 2))), (q 3, .inl (T 0, 1602, .inl (Z 3))), (q 5, .inl (T 0, 267, .inl (Z 5))), (q 7, .inl (T 0, 60, .inl (Z 7))), (q 13, .inl (T 0, 8, .inl (Z 13))), (q 15, .inl (T 0, 3, .inl (Z 15)))] s.heap := hP
  refine lv_iload_n hx hb dX8_tellsRoom_0 rfl (lv_at hl 2 rfl) ?_
  rcases (show w = 0 ∨ w = 1 ∨ w = 2 ∨ w = 3 ∨ w = 4 ∨ w = 5 by omega) with rfl | rfl | rfl | rfl | rfl | rfl
  · skip
    refine n_tab (a := 0) (off := 31) (tgt := 32) hx hb (by decide) dX8_tellsRoom_1 (by decide) (by decide) rfl (by decide) ?_
    refine lv_aload_n hx hb dX8_tellsRoom_32 rfl (lv_at hl 0 rfl) ?_
    refine lv_iload_n hx hb dX8_tellsRoom_33 rfl (lv_at hl 1 rfl) ?_
    refine lv_iload_n hx hb dX8_tellsRoom_34 rfl (lv_at hl 2 rfl) ?_
    refine k_roV (As := [.int (nI r), .int (nI 0)]) (rest := []) (wc := oX8 T q Z g) (d := 0) (v := (Z 2) (14 + 5 * r)) cx (c_X8_ofRoom l G T A q Z g r 0 (by omega) (by omega)) (cwV 2 hts gX8_tellsRoom_X8_ofRoom rfl rfl rfl (by decide +kernel) ⟨Nat.le_of_ble_eq_true rfl, Nat.le_of_ble_eq_true rfl⟩) hP hK hE (va_recv hK hP (ci := 8) (q0 := 0) rfl rfl) rfl hl.1 rfl (Nat.le_of_ble_eq_true rfl) dX8_tellsRoom_35 ⟨Nat.le_of_ble_eq_true rfl, Nat.le_of_ble_eq_true rfl⟩ ?_
    subst hQ
    exact e_ro hx hb hr hlocks (by first | rfl | (simp only [mTR]; rw [hx]; rfl)) dX8_tellsRoom_38
  · skip
    refine n_tab (a := 1) (off := 31) (tgt := 32) hx hb (by decide) dX8_tellsRoom_1 (by decide) (by decide) rfl (by decide) ?_
    refine lv_aload_n hx hb dX8_tellsRoom_32 rfl (lv_at hl 0 rfl) ?_
    refine lv_iload_n hx hb dX8_tellsRoom_33 rfl (lv_at hl 1 rfl) ?_
    refine lv_iload_n hx hb dX8_tellsRoom_34 rfl (lv_at hl 2 rfl) ?_
    refine k_roV (As := [.int (nI r), .int (nI 1)]) (rest := []) (wc := oX8 T q Z g) (d := 0) (v := (Z 2) (14 + 5 * r + 1)) cx (c_X8_ofRoom l G T A q Z g r 1 (by omega) (by omega)) (cwV 2 hts gX8_tellsRoom_X8_ofRoom rfl rfl rfl (by decide +kernel) ⟨Nat.le_of_ble_eq_true rfl, Nat.le_of_ble_eq_true rfl⟩) hP hK hE (va_recv hK hP (ci := 8) (q0 := 0) rfl rfl) rfl hl.1 rfl (Nat.le_of_ble_eq_true rfl) dX8_tellsRoom_35 ⟨Nat.le_of_ble_eq_true rfl, Nat.le_of_ble_eq_true rfl⟩ ?_
    subst hQ
    exact e_ro hx hb hr hlocks (by first | rfl | (simp only [mTR]; rw [hx]; rfl)) dX8_tellsRoom_38
  · skip
    refine n_tab (a := 2) (off := 31) (tgt := 32) hx hb (by decide) dX8_tellsRoom_1 (by decide) (by decide) rfl (by decide) ?_
    refine lv_aload_n hx hb dX8_tellsRoom_32 rfl (lv_at hl 0 rfl) ?_
    refine lv_iload_n hx hb dX8_tellsRoom_33 rfl (lv_at hl 1 rfl) ?_
    refine lv_iload_n hx hb dX8_tellsRoom_34 rfl (lv_at hl 2 rfl) ?_
    refine k_roV (As := [.int (nI r), .int (nI 2)]) (rest := []) (wc := oX8 T q Z g) (d := 0) (v := (Z 2) (14 + 5 * r + 2)) cx (c_X8_ofRoom l G T A q Z g r 2 (by omega) (by omega)) (cwV 2 hts gX8_tellsRoom_X8_ofRoom rfl rfl rfl (by decide +kernel) ⟨Nat.le_of_ble_eq_true rfl, Nat.le_of_ble_eq_true rfl⟩) hP hK hE (va_recv hK hP (ci := 8) (q0 := 0) rfl rfl) rfl hl.1 rfl (Nat.le_of_ble_eq_true rfl) dX8_tellsRoom_35 ⟨Nat.le_of_ble_eq_true rfl, Nat.le_of_ble_eq_true rfl⟩ ?_
    subst hQ
    exact e_ro hx hb hr hlocks (by first | rfl | (simp only [mTR]; rw [hx]; rfl)) dX8_tellsRoom_38
  · skip
    refine n_tab (a := 3) (off := 38) (tgt := 39) hx hb (by decide) dX8_tellsRoom_1 (by decide) (by decide) rfl (by decide) ?_
    refine lv_aload_n hx hb dX8_tellsRoom_39 rfl (lv_at hl 0 rfl) ?_
    refine lv_iload_n hx hb dX8_tellsRoom_40 rfl (lv_at hl 1 rfl) ?_
    refine k_roV (As := [.int (nI r)]) (rest := []) (wc := oX8 T q Z g) (d := 1) (v := bI (mSi Z r)) cx (c_X8_isSilenced l G T A q Z g r (by omega)) (cwV 1 hts gX8_tellsRoom_X8_isSilenced rfl rfl rfl (by decide +kernel) ⟨Nat.le_of_ble_eq_true rfl, Nat.le_of_ble_eq_true rfl⟩) hP hK hE (va_recv hK hP (ci := 8) (q0 := 0) rfl rfl) rfl hl.1 rfl (Nat.le_of_ble_eq_true rfl) dX8_tellsRoom_41 ⟨Nat.le_of_ble_eq_true rfl, Nat.le_of_ble_eq_true rfl⟩ ?_
    refine b_if_eq (b := mSi Z r) (tgt := 51) hx hb dX8_tellsRoom_44 (by decide) (fun c_1 => ?_) (fun c_2 => ?_)
    · skip
      refine n_iconst hx hb 0 dX8_tellsRoom_51 (by decide) ?_
      subst hQ
      exact e_ro hx hb hr hlocks (by first | rfl | (simp only [mTR]; rw [c_1]; rfl)) dX8_tellsRoom_52
    · skip
      refine n_iconst hx hb 1 dX8_tellsRoom_47 (by decide) ?_
      refine lv_goto (tgt := 52) hx hb dX8_tellsRoom_48 (by decide) ?_
      subst hQ
      exact e_ro hx hb hr hlocks (by first | rfl | (simp only [mTR]; rw [c_2]; rfl)) dX8_tellsRoom_52
  · skip
    refine n_tabO (tgt := 53) hx hb dX8_tellsRoom_1 0 4 (by decide) rfl rfl (by decide) ?_
    refine lv_aload_n hx hb dX8_tellsRoom_53 rfl (lv_at hl 0 rfl) ?_
    refine lv_iload_n hx hb dX8_tellsRoom_54 rfl (lv_at hl 1 rfl) ?_
    refine lv_iload_n hx hb dX8_tellsRoom_55 rfl (lv_at hl 2 rfl) ?_
    refine n_iconst hx hb 1 dX8_tellsRoom_56 (by decide) ?_
    refine n_isub (a := 4) (b := 1) hx hb (by omega) dX8_tellsRoom_57 ?_
    refine k_roV (As := [.int (nI r), .int (nI (4 - 1))]) (rest := []) (wc := oX8 T q Z g) (d := 0) (v := (Z 2) (14 + 5 * r + (4 - 1))) cx (c_X8_ofRoom l G T A q Z g r (4 - 1) (by omega) (by omega)) (cwV 2 hts gX8_tellsRoom_X8_ofRoom rfl rfl rfl (by decide +kernel) ⟨Nat.le_of_ble_eq_true rfl, Nat.le_of_ble_eq_true rfl⟩) hP hK hE (va_recv hK hP (ci := 8) (q0 := 0) rfl rfl) rfl hl.1 rfl (Nat.le_of_ble_eq_true rfl) dX8_tellsRoom_58 ⟨Nat.le_of_ble_eq_true rfl, Nat.le_of_ble_eq_true rfl⟩ ?_
    subst hQ
    exact e_ro hx hb hr hlocks (by first | rfl | (simp only [mTR]; rw [hx]; rfl)) dX8_tellsRoom_61
  · skip
    refine n_tabO (tgt := 53) hx hb dX8_tellsRoom_1 0 4 (by decide) rfl rfl (by decide) ?_
    refine lv_aload_n hx hb dX8_tellsRoom_53 rfl (lv_at hl 0 rfl) ?_
    refine lv_iload_n hx hb dX8_tellsRoom_54 rfl (lv_at hl 1 rfl) ?_
    refine lv_iload_n hx hb dX8_tellsRoom_55 rfl (lv_at hl 2 rfl) ?_
    refine n_iconst hx hb 1 dX8_tellsRoom_56 (by decide) ?_
    refine n_isub (a := 5) (b := 1) hx hb (by omega) dX8_tellsRoom_57 ?_
    refine k_roV (As := [.int (nI r), .int (nI (5 - 1))]) (rest := []) (wc := oX8 T q Z g) (d := 0) (v := (Z 2) (14 + 5 * r + (5 - 1))) cx (c_X8_ofRoom l G T A q Z g r (5 - 1) (by omega) (by omega)) (cwV 2 hts gX8_tellsRoom_X8_ofRoom rfl rfl rfl (by decide +kernel) ⟨Nat.le_of_ble_eq_true rfl, Nat.le_of_ble_eq_true rfl⟩) hP hK hE (va_recv hK hP (ci := 8) (q0 := 0) rfl rfl) rfl hl.1 rfl (Nat.le_of_ble_eq_true rfl) dX8_tellsRoom_58 ⟨Nat.le_of_ble_eq_true rfl, Nat.le_of_ble_eq_true rfl⟩ ?_
    subst hQ
    exact e_ro hx hb hr hlocks (by first | rfl | (simp only [mTR]; rw [hx]; rfl)) dX8_tellsRoom_61
set_option maxHeartbeats 4000000 in
set_option maxRecDepth 100000 in
theorem c_X8_withTunes (l : Launch) (G : va_G) (T : Nat → ClassId) (A : Nat → Prop) (q : Nat → Nat) (Z : Nat → Nat → Int32) (g : Int64) : RO l yX8_withTunes wsX8_withTunes 1 G T A (oX8 T q Z g) [.ref (q 0)] (nI (mWn Z 20)) := by
  refine Met.ofW (cc := cX8_withTunes) (maxL := 3) (ret := (some .int)) (by decide) rfl ?_
  intro p e s m args below meth c s₁ B hml hv
  obtain ⟨ha, hP, hK, hE⟩ := hv
  have hx := B.exec
  have hb := B.bytes
  have hr := B.returns
  have hlocks := B.notSynchronized
  have hts := atoms_spec (ws := wsX8_withTunes) B.pre
  have hown : s.vm.findClass RX8 = some m.cls := findClass_of_methodNamed B.named
  have cx : CallFix p m c cX8_withTunes 3 s args wsX8_withTunes RX8 := ⟨hx, hb, hml, hown, hts⟩
  refine w_entry ha (Nat.le_of_ble_eq_true rfl) (fun ls hl => ?_)
  refine w_q (fun Q0 hQ => ?_)
  have hl : lv_has ls 3 [(0, .ref (q 0))] := hl
  have hP : va_P G vwCl [(q 0, .inr (8, [.int (Z 0 0), .ref (q 2), .ref (q 3), .int (Z 0 3), .ref (q 5), .int (Z 0 5), .ref (q 7), .int (Z 0 7), .int (Z 0 8), .int (Z 0 9), .int (Z 0 10), .int (Z 0 11), .ref (q 13), .int (Z 0 13), .ref (q 15), .long g])), (q 2, .inl (T 0, 267, .inl (Z 2))), (q 3, .inl (T 0, 1602, .inl (Z 3))), (q 5, .inl (T 0, 267, .inl (Z 5))), (q 7, .inl (T 0, 60, .inl (Z 7))), (q 13, .inl (T 0, 8, .inl (Z 13))), (q 15, .inl (T 0, 3, .inl (Z 15)))] s.heap := hP
  refine n_iconst hx hb 0 dX8_withTunes_0 (by decide) ?_
  refine lv_istore_n (lv' := [(1, .int (nI 0)), (0, .ref (q 0))]) hx hb dX8_withTunes_1 rfl hl (by decide) rfl (fun ls hl => ?_)
  refine n_iconst hx hb 0 dX8_withTunes_2 (by decide) ?_
  refine lv_istore_n (lv' := [(2, .int (nI 0)), (1, .int (nI 0)), (0, .ref (q 0))]) hx hb dX8_withTunes_3 rfl hl (by decide) rfl (fun ls hl => ?_)
  have L4 : ∀ (n9 k : Nat) (hk1 : k ≤ 20) (hk2 : 20 - k < n9) (x2 : Int32) (x1 : Int32) (hx2 : x2 = nI k) (hx1 : x1 = nI (mWn Z k)) (ls : Array Slot) (hl : lv_has ls 3 [(2, .int x2), (1, .int x1), (0, .ref (q 0))]), W p l e (headSpec wsX8_withTunes (rmD 1 0 0)).room s m args below meth c s.heap [] 0 0 Q0 (F0 m 4 ls []) := by
    intro n9
    induction n9 with
    | zero => intros; omega
    | succ n9 ih4 =>
      intro k hk1 hk2 x2 x1 hx2 hx1 ls hl
      subst hx2 hx1
      refine lv_iload_n hx hb dX8_withTunes_4 rfl (lv_at hl 0 rfl) ?_
      refine lv_bipush (v := nI 20) hx hb dX8_withTunes_5 (by decide) ?_
      refine n_icmp_ge (a := k) (b := 20) (tgt := 33) hx hb (by omega) (by decide) dX8_withTunes_7 (by decide) (fun c_1 => ?_) (fun c_2 => ?_)
      · skip
        refine lv_iload_n hx hb dX8_withTunes_33 rfl (lv_at hl 1 rfl) ?_
        subst hQ
        exact e_ro hx hb hr hlocks (by obtain rfl : k = 20 := (by omega); rfl) dX8_withTunes_34
      · skip
        refine lv_iload_n hx hb dX8_withTunes_10 rfl (lv_at hl 1 rfl) ?_
        refine lv_aload_n hx hb dX8_withTunes_11 rfl (lv_at hl 2 rfl) ?_
        refine lv_iload_n hx hb dX8_withTunes_12 rfl (lv_at hl 0 rfl) ?_
        refine n_iconst hx hb 0 dX8_withTunes_13 (by decide) ?_
        refine k_roV (As := [.int (nI k), .int (nI 0)]) (rest := [.int (nI (mWn Z k))]) (wc := oX8 T q Z g) (d := 0) (v := (Z 2) (47 + 11 * k)) cx (c_X8_ofMessage l G T A q Z g k 0 (by omega) (by omega)) (cwV 2 hts gX8_withTunes_X8_ofMessage rfl rfl rfl (by decide +kernel) ⟨Nat.le_of_ble_eq_true rfl, Nat.le_of_ble_eq_true rfl⟩) hP hK hE (va_recv hK hP (ci := 8) (q0 := 0) rfl rfl) rfl hl.1 rfl (Nat.le_of_ble_eq_true rfl) dX8_withTunes_14 ⟨Nat.le_of_ble_eq_true rfl, Nat.le_of_ble_eq_true rfl⟩ ?_
        have J_3 : ∀ y9 : Int32, y9 = (nI (if Z 2 (47 + 11 * k) ≤ 0 then 0 else 1)) → W p l e (headSpec wsX8_withTunes (rmD 1 0 0)).room s m args below meth c s.heap [] 0 0 Q0 (F0 m 25 ls (.int y9 :: .int (nI (mWn Z k)) :: [])) := by
          intro y9 hy9
          subst hy9
          refine n_iadd (a := mWn Z k) (b := (if Z 2 (47 + 11 * k) ≤ 0 then 0 else 1)) hx hb dX8_withTunes_25 ?_
          refine lv_istore_n (lv' := [(1, .int (nI (mWn Z k + ((if Z 2 (47 + 11 * k) ≤ 0 then 0 else 1))))), (2, .int (nI k)), (0, .ref (q 0))]) hx hb dX8_withTunes_26 rfl hl (by decide) rfl (fun ls hl => ?_)
          refine lv_iinc (v := nI (k + 1)) (lv' := [(2, .int (nI (k + 1))), (1, .int (nI (mWn Z k + ((if Z 2 (47 + 11 * k) ≤ 0 then 0 else 1))))), (0, .ref (q 0))]) hx hb dX8_withTunes_27 hl (k := 1) rfl (n_inc k 1 rfl) (by decide) rfl (fun ls hl => ?_)
          refine lv_goto (tgt := 4) hx hb dX8_withTunes_30 (by decide) ?_
          have e_4 : (nI (mWn Z k + ((if Z 2 (47 + 11 * k) ≤ 0 then 0 else 1)))) = nI (mWn Z (k + 1)) := (by first | rfl | simp [bI, c_2])
          exact ih4 (k + 1) (by omega) (by omega) _ _ rfl e_4 _ (lv_sub hl [0, 1, 2] rfl)
        refine lv_if_le (tgt := 24) hx hb dX8_withTunes_17 (by decide) (fun c_5 => ?_) (fun c_6 => ?_)
        · skip
          refine n_iconst hx hb 0 dX8_withTunes_24 (by decide) ?_
          exact J_3 _ (by first | rw [if_pos c_5] | rw [if_neg c_5])
        · skip
          refine n_iconst hx hb 1 dX8_withTunes_20 (by decide) ?_
          refine lv_goto (tgt := 25) hx hb dX8_withTunes_21 (by decide) ?_
          exact J_3 _ (by first | rw [if_pos c_6] | rw [if_neg c_6])
  exact L4 (20 + 1) 0 (by omega) (by omega) _ _ rfl rfl _ (lv_sub hl [0, 1, 2] rfl)
set_option maxHeartbeats 4000000 in
set_option maxRecDepth 100000 in
theorem c_X8_mostNotes (l : Launch) (G : va_G) (T : Nat → ClassId) (A : Nat → Prop) (q : Nat → Nat) (Z : Nat → Nat → Int32) (g : Int64) : RO l yX8_mostNotes wsX8_mostNotes 1 G T A (oX8 T q Z g) [.ref (q 0)] (mMo Z 20) := by
  refine Met.ofW (cc := cX8_mostNotes) (maxL := 3) (ret := (some .int)) (by decide) rfl ?_
  intro p e s m args below meth c s₁ B hml hv
  obtain ⟨ha, hP, hK, hE⟩ := hv
  have hx := B.exec
  have hb := B.bytes
  have hr := B.returns
  have hlocks := B.notSynchronized
  have hts := atoms_spec (ws := wsX8_mostNotes) B.pre
  have hown : s.vm.findClass RX8 = some m.cls := findClass_of_methodNamed B.named
  have cx : CallFix p m c cX8_mostNotes 3 s args wsX8_mostNotes RX8 := ⟨hx, hb, hml, hown, hts⟩
  refine w_entry ha (Nat.le_of_ble_eq_true rfl) (fun ls hl => ?_)
  refine w_q (fun Q0 hQ => ?_)
  have hl : lv_has ls 3 [(0, .ref (q 0))] := hl
  have hP : va_P G vwCl [(q 0, .inr (8, [.int (Z 0 0), .ref (q 2), .ref (q 3), .int (Z 0 3), .ref (q 5), .int (Z 0 5), .ref (q 7), .int (Z 0 7), .int (Z 0 8), .int (Z 0 9), .int (Z 0 10), .int (Z 0 11), .ref (q 13), .int (Z 0 13), .ref (q 15), .long g])), (q 2, .inl (T 0, 267, .inl (Z 2))), (q 3, .inl (T 0, 1602, .inl (Z 3))), (q 5, .inl (T 0, 267, .inl (Z 5))), (q 7, .inl (T 0, 60, .inl (Z 7))), (q 13, .inl (T 0, 8, .inl (Z 13))), (q 15, .inl (T 0, 3, .inl (Z 15)))] s.heap := hP
  refine n_iconst hx hb 0 dX8_mostNotes_0 (by decide) ?_
  refine lv_istore_n (lv' := [(1, .int (nI 0)), (0, .ref (q 0))]) hx hb dX8_mostNotes_1 rfl hl (by decide) rfl (fun ls hl => ?_)
  refine n_iconst hx hb 0 dX8_mostNotes_2 (by decide) ?_
  refine lv_istore_n (lv' := [(2, .int (nI 0)), (1, .int (nI 0)), (0, .ref (q 0))]) hx hb dX8_mostNotes_3 rfl hl (by decide) rfl (fun ls hl => ?_)
  have L4 : ∀ (n9 k : Nat) (hk1 : k ≤ 20) (hk2 : 20 - k < n9) (x2 : Int32) (x1 : Int32) (hx2 : x2 = nI k) (hx1 : x1 = mMo Z k) (ls : Array Slot) (hl : lv_has ls 3 [(2, .int x2), (1, .int x1), (0, .ref (q 0))]), W p l e (headSpec wsX8_mostNotes (rmD 1 0 0)).room s m args below meth c s.heap [] 0 0 Q0 (F0 m 4 ls []) := by
    intro n9
    induction n9 with
    | zero => intros; omega
    | succ n9 ih4 =>
      intro k hk1 hk2 x2 x1 hx2 hx1 ls hl
      subst hx2 hx1
      refine lv_iload_n hx hb dX8_mostNotes_4 rfl (lv_at hl 0 rfl) ?_
      refine lv_bipush (v := nI 20) hx hb dX8_mostNotes_5 (by decide) ?_
      refine n_icmp_ge (a := k) (b := 20) (tgt := 37) hx hb (by omega) (by decide) dX8_mostNotes_7 (by decide) (fun c_1 => ?_) (fun c_2 => ?_)
      · skip
        refine lv_iload_n hx hb dX8_mostNotes_37 rfl (lv_at hl 1 rfl) ?_
        subst hQ
        exact e_ro hx hb hr hlocks (by obtain rfl : k = 20 := (by omega); rfl) dX8_mostNotes_38
      · skip
        refine lv_aload_n hx hb dX8_mostNotes_10 rfl (lv_at hl 2 rfl) ?_
        refine lv_iload_n hx hb dX8_mostNotes_11 rfl (lv_at hl 0 rfl) ?_
        refine n_iconst hx hb 0 dX8_mostNotes_12 (by decide) ?_
        refine k_roV (As := [.int (nI k), .int (nI 0)]) (rest := []) (wc := oX8 T q Z g) (d := 0) (v := (Z 2) (47 + 11 * k)) cx (c_X8_ofMessage l G T A q Z g k 0 (by omega) (by omega)) (cwV 2 hts gX8_mostNotes_X8_ofMessage rfl rfl rfl (by decide +kernel) ⟨Nat.le_of_ble_eq_true rfl, Nat.le_of_ble_eq_true rfl⟩) hP hK hE (va_recv hK hP (ci := 8) (q0 := 0) rfl rfl) rfl hl.1 rfl (Nat.le_of_ble_eq_true rfl) dX8_mostNotes_13 ⟨Nat.le_of_ble_eq_true rfl, Nat.le_of_ble_eq_true rfl⟩ ?_
        refine lv_iload_n hx hb dX8_mostNotes_16 rfl (lv_at hl 1 rfl) ?_
        have J_3 : ∀ y9 : Int32, y9 = (mMo Z (k + 1)) → W p l e (headSpec wsX8_mostNotes (rmD 1 0 0)).room s m args below meth c s.heap [] 0 0 Q0 (F0 m 30 ls (.int y9 :: [])) := by
          intro y9 hy9
          subst hy9
          refine lv_istore_n (lv' := [(1, .int (mMo Z (k + 1))), (2, .int (nI k)), (0, .ref (q 0))]) hx hb dX8_mostNotes_30 rfl hl (by decide) rfl (fun ls hl => ?_)
          refine lv_iinc (v := nI (k + 1)) (lv' := [(2, .int (nI (k + 1))), (1, .int (mMo Z (k + 1))), (0, .ref (q 0))]) hx hb dX8_mostNotes_31 hl (k := 1) rfl (n_inc k 1 rfl) (by decide) rfl (fun ls hl => ?_)
          refine lv_goto (tgt := 4) hx hb dX8_mostNotes_34 (by decide) ?_
          exact ih4 (k + 1) (by omega) (by omega) _ _ rfl rfl _ (lv_sub hl [0, 1, 2] rfl)
        refine lv_icmp_le (tgt := 29) hx hb dX8_mostNotes_17 (by decide) (fun c_4 => ?_) (fun c_5 => ?_)
        · skip
          refine lv_iload_n hx hb dX8_mostNotes_29 rfl (lv_at hl 1 rfl) ?_
          exact J_3 _ (by simp only [mMo]; first | rw [if_pos c_4] | rw [if_neg c_4])
        · skip
          refine lv_aload_n hx hb dX8_mostNotes_20 rfl (lv_at hl 2 rfl) ?_
          refine lv_iload_n hx hb dX8_mostNotes_21 rfl (lv_at hl 0 rfl) ?_
          refine n_iconst hx hb 0 dX8_mostNotes_22 (by decide) ?_
          refine k_roV (As := [.int (nI k), .int (nI 0)]) (rest := []) (wc := oX8 T q Z g) (d := 0) (v := (Z 2) (47 + 11 * k)) cx (c_X8_ofMessage l G T A q Z g k 0 (by omega) (by omega)) (cwV 2 hts gX8_mostNotes_X8_ofMessage rfl rfl rfl (by decide +kernel) ⟨Nat.le_of_ble_eq_true rfl, Nat.le_of_ble_eq_true rfl⟩) hP hK hE (va_recv hK hP (ci := 8) (q0 := 0) rfl rfl) rfl hl.1 rfl (Nat.le_of_ble_eq_true rfl) dX8_mostNotes_23 ⟨Nat.le_of_ble_eq_true rfl, Nat.le_of_ble_eq_true rfl⟩ ?_
          refine lv_goto (tgt := 30) hx hb dX8_mostNotes_26 (by decide) ?_
          exact J_3 _ (by simp only [mMo]; first | rw [if_pos c_5] | rw [if_neg c_5])
  exact L4 (20 + 1) 0 (by omega) (by omega) _ _ rfl rfl _ (lv_sub hl [0, 1, 2] rfl)
set_option maxHeartbeats 4000000 in
set_option maxRecDepth 100000 in
theorem c_X8_sumOfRooms (l : Launch) (G : va_G) (T : Nat → ClassId) (A : Nat → Prop) (q : Nat → Nat) (Z : Nat → Nat → Int32) (g : Int64) (w : Nat) (hw : w ≤ 5) : RO l yX8_sumOfRooms wsX8_sumOfRooms 3 G T A (oX8 T q Z g) [.ref (q 0), .int (nI w)] (mSu Z w 6) := by
  refine Met.ofW (cc := cX8_sumOfRooms) (maxL := 4) (ret := (some .int)) (by decide) rfl ?_
  intro p e s m args below meth c s₁ B hml hv
  obtain ⟨ha, hP, hK, hE⟩ := hv
  have hx := B.exec
  have hb := B.bytes
  have hr := B.returns
  have hlocks := B.notSynchronized
  have hts := atoms_spec (ws := wsX8_sumOfRooms) B.pre
  have hown : s.vm.findClass RX8 = some m.cls := findClass_of_methodNamed B.named
  have cx : CallFix p m c cX8_sumOfRooms 4 s args wsX8_sumOfRooms RX8 := ⟨hx, hb, hml, hown, hts⟩
  refine w_entry ha (Nat.le_of_ble_eq_true rfl) (fun ls hl => ?_)
  refine w_q (fun Q0 hQ => ?_)
  have hl : lv_has ls 4 [(0, .ref (q 0)), (1, .int (nI w))] := hl
  have hP : va_P G vwCl [(q 0, .inr (8, [.int (Z 0 0), .ref (q 2), .ref (q 3), .int (Z 0 3), .ref (q 5), .int (Z 0 5), .ref (q 7), .int (Z 0 7), .int (Z 0 8), .int (Z 0 9), .int (Z 0 10), .int (Z 0 11), .ref (q 13), .int (Z 0 13), .ref (q 15), .long g])), (q 2, .inl (T 0, 267, .inl (Z 2))), (q 3, .inl (T 0, 1602, .inl (Z 3))), (q 5, .inl (T 0, 267, .inl (Z 5))), (q 7, .inl (T 0, 60, .inl (Z 7))), (q 13, .inl (T 0, 8, .inl (Z 13))), (q 15, .inl (T 0, 3, .inl (Z 15)))] s.heap := hP
  refine n_iconst hx hb 0 dX8_sumOfRooms_0 (by decide) ?_
  refine lv_istore_n (lv' := [(2, .int (nI 0)), (0, .ref (q 0)), (1, .int (nI w))]) hx hb dX8_sumOfRooms_1 rfl hl (by decide) rfl (fun ls hl => ?_)
  refine n_iconst hx hb 0 dX8_sumOfRooms_2 (by decide) ?_
  refine lv_istore_n (lv' := [(3, .int (nI 0)), (2, .int (nI 0)), (0, .ref (q 0)), (1, .int (nI w))]) hx hb dX8_sumOfRooms_3 rfl hl (by decide) rfl (fun ls hl => ?_)
  have L4 : ∀ (n9 k : Nat) (hk1 : k ≤ 6) (hk2 : 6 - k < n9) (x3 : Int32) (x2 : Int32) (hx3 : x3 = nI k) (hx2 : x2 = mSu Z w k) (ls : Array Slot) (hl : lv_has ls 4 [(3, .int x3), (2, .int x2), (0, .ref (q 0)), (1, .int (nI w))]), W p l e (headSpec wsX8_sumOfRooms (rmD 3 0 0)).room s m args below meth c s.heap [] 0 0 Q0 (F0 m 4 ls []) := by
    intro n9
    induction n9 with
    | zero => intros; omega
    | succ n9 ih4 =>
      intro k hk1 hk2 x3 x2 hx3 hx2 ls hl
      subst hx3 hx2
      refine lv_iload_n hx hb dX8_sumOfRooms_4 rfl (lv_at hl 0 rfl) ?_
      refine lv_bipush (v := nI 6) hx hb dX8_sumOfRooms_5 (by decide) ?_
      refine n_icmp_ge (a := k) (b := 6) (tgt := 25) hx hb (by omega) (by decide) dX8_sumOfRooms_7 (by decide) (fun c_1 => ?_) (fun c_2 => ?_)
      · skip
        refine lv_iload_n hx hb dX8_sumOfRooms_25 rfl (lv_at hl 1 rfl) ?_
        subst hQ
        exact e_ro hx hb hr hlocks (by obtain rfl : k = 6 := (by omega); rfl) dX8_sumOfRooms_26
      · skip
        refine lv_iload_n hx hb dX8_sumOfRooms_10 rfl (lv_at hl 1 rfl) ?_
        refine lv_aload_n hx hb dX8_sumOfRooms_11 rfl (lv_at hl 2 rfl) ?_
        refine lv_iload_n hx hb dX8_sumOfRooms_12 rfl (lv_at hl 0 rfl) ?_
        refine lv_iload_n hx hb dX8_sumOfRooms_13 rfl (lv_at hl 3 rfl) ?_
        refine k_roV (As := [.int (nI k), .int (nI w)]) (rest := [.int (mSu Z w k)]) (wc := oX8 T q Z g) (d := 2) (v := mTR Z k w) cx (c_X8_tellsRoom l G T A q Z g k w (by omega) (by omega)) (cwV 2 hts gX8_sumOfRooms_X8_tellsRoom rfl rfl rfl (by decide +kernel) ⟨Nat.le_of_ble_eq_true rfl, Nat.le_of_ble_eq_true rfl⟩) hP hK hE (va_recv hK hP (ci := 8) (q0 := 0) rfl rfl) rfl hl.1 rfl (Nat.le_of_ble_eq_true rfl) dX8_sumOfRooms_14 ⟨Nat.le_of_ble_eq_true rfl, Nat.le_of_ble_eq_true rfl⟩ ?_
        refine lv_iadd hx hb dX8_sumOfRooms_17 ?_
        refine lv_istore_n (lv' := [(2, .int ((mSu Z w k) + (mTR Z k w))), (3, .int (nI k)), (0, .ref (q 0)), (1, .int (nI w))]) hx hb dX8_sumOfRooms_18 rfl hl (by decide) rfl (fun ls hl => ?_)
        refine lv_iinc (v := nI (k + 1)) (lv' := [(3, .int (nI (k + 1))), (2, .int ((mSu Z w k) + (mTR Z k w))), (0, .ref (q 0)), (1, .int (nI w))]) hx hb dX8_sumOfRooms_19 hl (k := 1) rfl (n_inc k 1 rfl) (by decide) rfl (fun ls hl => ?_)
        refine lv_goto (tgt := 4) hx hb dX8_sumOfRooms_22 (by decide) ?_
        have e_3 : ((mSu Z w k) + (mTR Z k w)) = mSu Z w (k + 1) := rfl
        exact ih4 (k + 1) (by omega) (by omega) _ _ rfl e_3 _ (lv_sub hl [0, 1, 2, 3] rfl)
  exact L4 (6 + 1) 0 (by omega) (by omega) _ _ rfl rfl _ (lv_sub hl [0, 1, 2, 3] rfl)
set_option maxHeartbeats 4000000 in
set_option maxRecDepth 100000 in
theorem c_X8_withKey (l : Launch) (G : va_G) (T : Nat → ClassId) (A : Nat → Prop) (q : Nat → Nat) (Z : Nat → Nat → Int32) (g : Int64) : RO l yX8_withKey wsX8_withKey 1 G T A (oX8 T q Z g) [.ref (q 0)] (mWk Z 6) := by
  refine Met.ofW (cc := cX8_withKey) (maxL := 3) (ret := (some .int)) (by decide) rfl ?_
  intro p e s m args below meth c s₁ B hml hv
  obtain ⟨ha, hP, hK, hE⟩ := hv
  have hx := B.exec
  have hb := B.bytes
  have hr := B.returns
  have hlocks := B.notSynchronized
  have hts := atoms_spec (ws := wsX8_withKey) B.pre
  have hown : s.vm.findClass RX8 = some m.cls := findClass_of_methodNamed B.named
  have cx : CallFix p m c cX8_withKey 3 s args wsX8_withKey RX8 := ⟨hx, hb, hml, hown, hts⟩
  refine w_entry ha (Nat.le_of_ble_eq_true rfl) (fun ls hl => ?_)
  refine w_q (fun Q0 hQ => ?_)
  have lk7 := hts (.fieldLink RX8 7 "WhistleTunesModel" "state" "[I") (by decide +kernel)
  have hinX8 : ∀ w ∈ wsX80, w ∈ wsX8_withKey := by decide +kernel
  have hl : lv_has ls 3 [(0, .ref (q 0))] := hl
  have hP : va_P G vwCl [(q 0, .inr (8, [.int (Z 0 0), .ref (q 2), .ref (q 3), .int (Z 0 3), .ref (q 5), .int (Z 0 5), .ref (q 7), .int (Z 0 7), .int (Z 0 8), .int (Z 0 9), .int (Z 0 10), .int (Z 0 11), .ref (q 13), .int (Z 0 13), .ref (q 15), .long g])), (q 2, .inl (T 0, 267, .inl (Z 2))), (q 3, .inl (T 0, 1602, .inl (Z 3))), (q 5, .inl (T 0, 267, .inl (Z 5))), (q 7, .inl (T 0, 60, .inl (Z 7))), (q 13, .inl (T 0, 8, .inl (Z 13))), (q 15, .inl (T 0, 3, .inl (Z 15)))] s.heap := hP
  refine n_iconst hx hb 0 dX8_withKey_0 (by decide) ?_
  refine lv_istore_n (lv' := [(1, .int (nI 0)), (0, .ref (q 0))]) hx hb dX8_withKey_1 rfl hl (by decide) rfl (fun ls hl => ?_)
  refine n_iconst hx hb 0 dX8_withKey_2 (by decide) ?_
  refine lv_istore_n (lv' := [(2, .int (nI 0)), (1, .int (nI 0)), (0, .ref (q 0))]) hx hb dX8_withKey_3 rfl hl (by decide) rfl (fun ls hl => ?_)
  have L4 : ∀ (n9 k : Nat) (hk1 : k ≤ 6) (hk2 : 6 - k < n9) (x2 : Int32) (x1 : Int32) (hx2 : x2 = nI k) (hx1 : x1 = mWk Z k) (ls : Array Slot) (hl : lv_has ls 3 [(2, .int x2), (1, .int x1), (0, .ref (q 0))]), W p l e (headSpec wsX8_withKey (rmD 1 0 0)).room s m args below meth c s.heap [] 0 0 Q0 (F0 m 4 ls []) := by
    intro n9
    induction n9 with
    | zero => intros; omega
    | succ n9 ih4 =>
      intro k hk1 hk2 x2 x1 hx2 hx1 ls hl
      subst hx2 hx1
      refine lv_iload_n hx hb dX8_withKey_4 rfl (lv_at hl 0 rfl) ?_
      refine lv_bipush (v := nI 6) hx hb dX8_withKey_5 (by decide) ?_
      refine n_icmp_ge (a := k) (b := 6) (tgt := 41) hx hb (by omega) (by decide) dX8_withKey_7 (by decide) (fun c_1 => ?_) (fun c_2 => ?_)
      · skip
        refine lv_iload_n hx hb dX8_withKey_41 rfl (lv_at hl 1 rfl) ?_
        subst hQ
        exact e_ro hx hb hr hlocks (by obtain rfl : k = 6 := (by omega); rfl) dX8_withKey_42
      · skip
        refine lv_iload_n hx hb dX8_withKey_10 rfl (lv_at hl 1 rfl) ?_
        refine lv_aload_n hx hb dX8_withKey_11 rfl (lv_at hl 2 rfl) ?_
        refine lv_iload_n hx hb dX8_withKey_12 rfl (lv_at hl 0 rfl) ?_
        refine n_iconst hx hb 0 dX8_withKey_13 (by decide) ?_
        refine k_roV (As := [.int (nI k), .int (nI 0)]) (rest := [.int (mWk Z k)]) (wc := oX8 T q Z g) (d := 0) (v := (Z 2) (14 + 5 * k)) cx (c_X8_ofRoom l G T A q Z g k 0 (by omega) (by omega)) (cwV 2 hts gX8_withKey_X8_ofRoom rfl rfl rfl (by decide +kernel) ⟨Nat.le_of_ble_eq_true rfl, Nat.le_of_ble_eq_true rfl⟩) hP hK hE (va_recv hK hP (ci := 8) (q0 := 0) rfl rfl) rfl hl.1 rfl (Nat.le_of_ble_eq_true rfl) dX8_withKey_14 ⟨Nat.le_of_ble_eq_true rfl, Nat.le_of_ble_eq_true rfl⟩ ?_
        refine lv_aload_n hx hb dX8_withKey_17 rfl (lv_at hl 2 rfl) ?_
        refine va_get (D := G) (ci := 8) (v := .ref (q 2)) (C := RX8) (T := TX8) (N := 16) hx hb hts hinX8 hown hK hP 0 rfl rfl 1 (by decide) lk7 (fun _ h9 => h9) rfl dX8_withKey_18 ?_
        refine n_iconst hx hb 1 dX8_withKey_21 (by decide) ?_
        refine n_iald hx hb hK hP 1 0 rfl rfl 1 (by decide) (by decide) dX8_withKey_22 ?_
        have J_3 : ∀ y9 : Int32, y9 = (if Z 2 (14 + 5 * k) = Z 2 1 then iShl (nI 1) (nI k) else nI 0) → W p l e (headSpec wsX8_withKey (rmD 1 0 0)).room s m args below meth c s.heap [] 0 0 Q0 (F0 m 33 ls (.int y9 :: .int (mWk Z k) :: [])) := by
          intro y9 hy9
          subst hy9
          refine lv_ior hx hb dX8_withKey_33 ?_
          refine lv_istore_n (lv' := [(1, .int ((mWk Z k) ||| (if Z 2 (14 + 5 * k) = Z 2 1 then iShl (nI 1) (nI k) else nI 0))), (2, .int (nI k)), (0, .ref (q 0))]) hx hb dX8_withKey_34 rfl hl (by decide) rfl (fun ls hl => ?_)
          refine lv_iinc (v := nI (k + 1)) (lv' := [(2, .int (nI (k + 1))), (1, .int ((mWk Z k) ||| (if Z 2 (14 + 5 * k) = Z 2 1 then iShl (nI 1) (nI k) else nI 0))), (0, .ref (q 0))]) hx hb dX8_withKey_35 hl (k := 1) rfl (n_inc k 1 rfl) (by decide) rfl (fun ls hl => ?_)
          refine lv_goto (tgt := 4) hx hb dX8_withKey_38 (by decide) ?_
          have e_4 : ((mWk Z k) ||| (if Z 2 (14 + 5 * k) = Z 2 1 then iShl (nI 1) (nI k) else nI 0)) = mWk Z (k + 1) := rfl
          exact ih4 (k + 1) (by omega) (by omega) _ _ rfl e_4 _ (lv_sub hl [0, 1, 2] rfl)
        refine lv_icmp_ne (tgt := 32) hx hb dX8_withKey_23 (by decide) (fun c_5 => ?_) (fun c_6 => ?_)
        · skip
          refine n_iconst hx hb 0 dX8_withKey_32 (by decide) ?_
          exact J_3 _ (by first | rw [if_pos c_5] | rw [if_neg c_5])
        · skip
          refine n_iconst hx hb 1 dX8_withKey_26 (by decide) ?_
          refine lv_iload_n hx hb dX8_withKey_27 rfl (lv_at hl 0 rfl) ?_
          refine x_ishl hx hb dX8_withKey_28 ?_
          refine lv_goto (tgt := 33) hx hb dX8_withKey_29 (by decide) ?_
          exact J_3 _ (by first | rw [if_pos c_6] | rw [if_neg c_6])
  exact L4 (6 + 1) 0 (by omega) (by omega) _ _ rfl rfl _ (lv_sub hl [0, 1, 2] rfl)
set_option maxHeartbeats 4000000 in
set_option maxRecDepth 100000 in
theorem c_X8_tellsCount (l : Launch) (G : va_G) (T : Nat → ClassId) (A : Nat → Prop) (q : Nat → Nat) (Z : Nat → Nat → Int32) (g : Int64) (ln : Nat → Nat) (w : Nat) (hln : ∀ i : Nat, i < 20 → Z 2 (47 + 11 * i) = nI (ln i)) (hln8 : ∀ i : Nat, i < 20 → ln i ≤ 8) (hw : w ≤ 13) : RO l yX8_tellsCount wsX8_tellsCount 4 G T A (oX8 T q Z g) [.ref (q 0), .int (nI w)] (mTC Z ln w) := by
  refine Met.ofW (cc := cX8_tellsCount) (maxL := 2) (ret := (some .int)) (by decide) rfl ?_
  intro p e s m args below meth c s₁ B hml hv
  obtain ⟨ha, hP, hK, hE⟩ := hv
  have hx := B.exec
  have hb := B.bytes
  have hr := B.returns
  have hlocks := B.notSynchronized
  have hts := atoms_spec (ws := wsX8_tellsCount) B.pre
  have hown : s.vm.findClass RX8 = some m.cls := findClass_of_methodNamed B.named
  have cx : CallFix p m c cX8_tellsCount 2 s args wsX8_tellsCount RX8 := ⟨hx, hb, hml, hown, hts⟩
  refine w_entry ha (Nat.le_of_ble_eq_true rfl) (fun ls hl => ?_)
  refine w_q (fun Q0 hQ => ?_)
  have lk7 := hts (.fieldLink RX8 7 "WhistleTunesModel" "state" "[I") (by decide +kernel)
  have hinX8 : ∀ w ∈ wsX80, w ∈ wsX8_tellsCount := by decide +kernel
  have lk36 := hts (.fieldLink RX8 36 "WhistleTunesModel" "savedMany" "I") (by decide +kernel)
  have hl : lv_has ls 2 [(0, .ref (q 0)), (1, .int (nI w))] := hl
  have hP : va_P G vwCl [(q 0, .inr (8, [.int (Z 0 0), .ref (q 2), .ref (q 3), .int (Z 0 3), .ref (q 5), .int (Z 0 5), .ref (q 7), .int (Z 0 7), .int (Z 0 8), .int (Z 0 9), .int (Z 0 10), .int (Z 0 11), .ref (q 13), .int (Z 0 13), .ref (q 15), .long g])), (q 2, .inl (T 0, 267, .inl (Z 2))), (q 3, .inl (T 0, 1602, .inl (Z 3))), (q 5, .inl (T 0, 267, .inl (Z 5))), (q 7, .inl (T 0, 60, .inl (Z 7))), (q 13, .inl (T 0, 8, .inl (Z 13))), (q 15, .inl (T 0, 3, .inl (Z 15)))] s.heap := hP
  refine lv_iload_n hx hb dX8_tellsCount_0 rfl (lv_at hl 1 rfl) ?_
  rcases (show w = 0 ∨ w = 1 ∨ w = 2 ∨ w = 3 ∨ w = 4 ∨ w = 5 ∨ w = 6 ∨ w = 7 ∨ w = 8 ∨ w = 9 ∨ w = 10 ∨ w = 11 ∨ w = 12 ∨ w = 13 by omega) with rfl | rfl | rfl | rfl | rfl | rfl | rfl | rfl | rfl | rfl | rfl | rfl | rfl | rfl
  · skip
    refine n_tab (a := 0) (off := 67) (tgt := 68) hx hb (by decide) dX8_tellsCount_1 (by decide) (by decide) rfl (by decide) ?_
    refine lv_aload_n hx hb dX8_tellsCount_68 rfl (lv_at hl 0 rfl) ?_
    refine va_get (D := G) (ci := 8) (v := .ref (q 2)) (C := RX8) (T := TX8) (N := 16) hx hb hts hinX8 hown hK hP 0 rfl rfl 1 (by decide) lk7 (fun _ h9 => h9) rfl dX8_tellsCount_69 ?_
    refine lv_iload_n hx hb dX8_tellsCount_72 rfl (lv_at hl 1 rfl) ?_
    refine n_iald hx hb hK hP 1 0 rfl rfl 0 (by decide) (by decide) dX8_tellsCount_73 ?_
    subst hQ
    exact e_ro hx hb hr hlocks rfl dX8_tellsCount_74
  · skip
    refine n_tab (a := 1) (off := 67) (tgt := 68) hx hb (by decide) dX8_tellsCount_1 (by decide) (by decide) rfl (by decide) ?_
    refine lv_aload_n hx hb dX8_tellsCount_68 rfl (lv_at hl 0 rfl) ?_
    refine va_get (D := G) (ci := 8) (v := .ref (q 2)) (C := RX8) (T := TX8) (N := 16) hx hb hts hinX8 hown hK hP 0 rfl rfl 1 (by decide) lk7 (fun _ h9 => h9) rfl dX8_tellsCount_69 ?_
    refine lv_iload_n hx hb dX8_tellsCount_72 rfl (lv_at hl 1 rfl) ?_
    refine n_iald hx hb hK hP 1 0 rfl rfl 1 (by decide) (by decide) dX8_tellsCount_73 ?_
    subst hQ
    exact e_ro hx hb hr hlocks rfl dX8_tellsCount_74
  · skip
    refine n_tab (a := 2) (off := 74) (tgt := 75) hx hb (by decide) dX8_tellsCount_1 (by decide) (by decide) rfl (by decide) ?_
    refine lv_aload_n hx hb dX8_tellsCount_75 rfl (lv_at hl 0 rfl) ?_
    refine k_roV (As := []) (rest := []) (wc := oX8 T q Z g) (d := 1) (v := nI (mWn Z 20)) cx (c_X8_withTunes l G T A q Z g ) (cwV 0 hts gX8_tellsCount_X8_withTunes rfl rfl rfl (by decide +kernel) ⟨Nat.le_of_ble_eq_true rfl, Nat.le_of_ble_eq_true rfl⟩) hP hK hE (va_recv hK hP (ci := 8) (q0 := 0) rfl rfl) rfl hl.1 rfl (Nat.le_of_ble_eq_true rfl) dX8_tellsCount_76 ⟨Nat.le_of_ble_eq_true rfl, Nat.le_of_ble_eq_true rfl⟩ ?_
    subst hQ
    exact e_ro hx hb hr hlocks rfl dX8_tellsCount_79
  · skip
    refine n_tab (a := 3) (off := 79) (tgt := 80) hx hb (by decide) dX8_tellsCount_1 (by decide) (by decide) rfl (by decide) ?_
    refine lv_aload_n hx hb dX8_tellsCount_80 rfl (lv_at hl 0 rfl) ?_
    refine k_roV (As := []) (rest := []) (wc := oX8 T q Z g) (d := 3) (v := nI (mNd Z ln 20)) cx (c_X8_nodes l G T A q Z g ln (by first | assumption | rfl | omega) hln8) (cwV 0 hts gX8_tellsCount_X8_nodes rfl rfl rfl (by decide +kernel) ⟨Nat.le_of_ble_eq_true rfl, Nat.le_of_ble_eq_true rfl⟩) hP hK hE (va_recv hK hP (ci := 8) (q0 := 0) rfl rfl) rfl hl.1 rfl (Nat.le_of_ble_eq_true rfl) dX8_tellsCount_81 ⟨Nat.le_of_ble_eq_true rfl, Nat.le_of_ble_eq_true rfl⟩ ?_
    subst hQ
    exact e_ro hx hb hr hlocks rfl dX8_tellsCount_84
  · skip
    refine n_tab (a := 4) (off := 84) (tgt := 85) hx hb (by decide) dX8_tellsCount_1 (by decide) (by decide) rfl (by decide) ?_
    refine lv_aload_n hx hb dX8_tellsCount_85 rfl (lv_at hl 0 rfl) ?_
    refine k_roV (As := []) (rest := []) (wc := oX8 T q Z g) (d := 1) (v := mMo Z 20) cx (c_X8_mostNotes l G T A q Z g ) (cwV 0 hts gX8_tellsCount_X8_mostNotes rfl rfl rfl (by decide +kernel) ⟨Nat.le_of_ble_eq_true rfl, Nat.le_of_ble_eq_true rfl⟩) hP hK hE (va_recv hK hP (ci := 8) (q0 := 0) rfl rfl) rfl hl.1 rfl (Nat.le_of_ble_eq_true rfl) dX8_tellsCount_86 ⟨Nat.le_of_ble_eq_true rfl, Nat.le_of_ble_eq_true rfl⟩ ?_
    subst hQ
    exact e_ro hx hb hr hlocks rfl dX8_tellsCount_89
  · skip
    refine n_tab (a := 5) (off := 89) (tgt := 90) hx hb (by decide) dX8_tellsCount_1 (by decide) (by decide) rfl (by decide) ?_
    refine lv_aload_n hx hb dX8_tellsCount_90 rfl (lv_at hl 0 rfl) ?_
    refine va_get (D := G) (ci := 8) (v := .ref (q 2)) (C := RX8) (T := TX8) (N := 16) hx hb hts hinX8 hown hK hP 0 rfl rfl 1 (by decide) lk7 (fun _ h9 => h9) rfl dX8_tellsCount_91 ?_
    refine n_iconst hx hb 2 dX8_tellsCount_94 (by decide) ?_
    refine n_iald hx hb hK hP 1 0 rfl rfl 2 (by decide) (by decide) dX8_tellsCount_95 ?_
    subst hQ
    exact e_ro hx hb hr hlocks rfl dX8_tellsCount_96
  · skip
    refine n_tab (a := 6) (off := 96) (tgt := 97) hx hb (by decide) dX8_tellsCount_1 (by decide) (by decide) rfl (by decide) ?_
    refine lv_aload_n hx hb dX8_tellsCount_97 rfl (lv_at hl 0 rfl) ?_
    refine n_iconst hx hb 2 dX8_tellsCount_98 (by decide) ?_
    refine k_roV (As := [.int (nI 2)]) (rest := []) (wc := oX8 T q Z g) (d := 3) (v := mSu Z 2 6) cx (c_X8_sumOfRooms l G T A q Z g 2 (by omega)) (cwV 1 hts gX8_tellsCount_X8_sumOfRooms rfl rfl rfl (by decide +kernel) ⟨Nat.le_of_ble_eq_true rfl, Nat.le_of_ble_eq_true rfl⟩) hP hK hE (va_recv hK hP (ci := 8) (q0 := 0) rfl rfl) rfl hl.1 rfl (Nat.le_of_ble_eq_true rfl) dX8_tellsCount_99 ⟨Nat.le_of_ble_eq_true rfl, Nat.le_of_ble_eq_true rfl⟩ ?_
    subst hQ
    exact e_ro hx hb hr hlocks rfl dX8_tellsCount_102
  · skip
    refine n_tab (a := 7) (off := 102) (tgt := 103) hx hb (by decide) dX8_tellsCount_1 (by decide) (by decide) rfl (by decide) ?_
    refine lv_aload_n hx hb dX8_tellsCount_103 rfl (lv_at hl 0 rfl) ?_
    refine n_iconst hx hb 3 dX8_tellsCount_104 (by decide) ?_
    refine k_roV (As := [.int (nI 3)]) (rest := []) (wc := oX8 T q Z g) (d := 3) (v := mSu Z 3 6) cx (c_X8_sumOfRooms l G T A q Z g 3 (by omega)) (cwV 1 hts gX8_tellsCount_X8_sumOfRooms rfl rfl rfl (by decide +kernel) ⟨Nat.le_of_ble_eq_true rfl, Nat.le_of_ble_eq_true rfl⟩) hP hK hE (va_recv hK hP (ci := 8) (q0 := 0) rfl rfl) rfl hl.1 rfl (Nat.le_of_ble_eq_true rfl) dX8_tellsCount_105 ⟨Nat.le_of_ble_eq_true rfl, Nat.le_of_ble_eq_true rfl⟩ ?_
    subst hQ
    exact e_ro hx hb hr hlocks rfl dX8_tellsCount_108
  · skip
    refine n_tab (a := 8) (off := 108) (tgt := 109) hx hb (by decide) dX8_tellsCount_1 (by decide) (by decide) rfl (by decide) ?_
    refine lv_aload_n hx hb dX8_tellsCount_109 rfl (lv_at hl 0 rfl) ?_
    refine va_get (D := G) (ci := 8) (v := .ref (q 2)) (C := RX8) (T := TX8) (N := 16) hx hb hts hinX8 hown hK hP 0 rfl rfl 1 (by decide) lk7 (fun _ h9 => h9) rfl dX8_tellsCount_110 ?_
    refine n_iconst hx hb 5 dX8_tellsCount_113 (by decide) ?_
    refine n_iald hx hb hK hP 1 0 rfl rfl 5 (by decide) (by decide) dX8_tellsCount_114 ?_
    subst hQ
    exact e_ro hx hb hr hlocks rfl dX8_tellsCount_115
  · skip
    refine n_tab (a := 9) (off := 115) (tgt := 116) hx hb (by decide) dX8_tellsCount_1 (by decide) (by decide) rfl (by decide) ?_
    refine lv_aload_n hx hb dX8_tellsCount_116 rfl (lv_at hl 0 rfl) ?_
    refine n_iconst hx hb 1 dX8_tellsCount_117 (by decide) ?_
    refine k_roV (As := [.int (nI 1)]) (rest := []) (wc := oX8 T q Z g) (d := 3) (v := mSu Z 1 6) cx (c_X8_sumOfRooms l G T A q Z g 1 (by omega)) (cwV 1 hts gX8_tellsCount_X8_sumOfRooms rfl rfl rfl (by decide +kernel) ⟨Nat.le_of_ble_eq_true rfl, Nat.le_of_ble_eq_true rfl⟩) hP hK hE (va_recv hK hP (ci := 8) (q0 := 0) rfl rfl) rfl hl.1 rfl (Nat.le_of_ble_eq_true rfl) dX8_tellsCount_118 ⟨Nat.le_of_ble_eq_true rfl, Nat.le_of_ble_eq_true rfl⟩ ?_
    subst hQ
    exact e_ro hx hb hr hlocks rfl dX8_tellsCount_121
  · skip
    refine n_tab (a := 10) (off := 121) (tgt := 122) hx hb (by decide) dX8_tellsCount_1 (by decide) (by decide) rfl (by decide) ?_
    refine lv_aload_n hx hb dX8_tellsCount_122 rfl (lv_at hl 0 rfl) ?_
    refine k_roV (As := []) (rest := []) (wc := oX8 T q Z g) (d := 1) (v := mWk Z 6) cx (c_X8_withKey l G T A q Z g ) (cwV 0 hts gX8_tellsCount_X8_withKey rfl rfl rfl (by decide +kernel) ⟨Nat.le_of_ble_eq_true rfl, Nat.le_of_ble_eq_true rfl⟩) hP hK hE (va_recv hK hP (ci := 8) (q0 := 0) rfl rfl) rfl hl.1 rfl (Nat.le_of_ble_eq_true rfl) dX8_tellsCount_123 ⟨Nat.le_of_ble_eq_true rfl, Nat.le_of_ble_eq_true rfl⟩ ?_
    subst hQ
    exact e_ro hx hb hr hlocks rfl dX8_tellsCount_126
  · skip
    refine n_tab (a := 11) (off := 126) (tgt := 127) hx hb (by decide) dX8_tellsCount_1 (by decide) (by decide) rfl (by decide) ?_
    refine lv_aload_n hx hb dX8_tellsCount_127 rfl (lv_at hl 0 rfl) ?_
    refine va_get (D := G) (ci := 8) (v := .ref (q 2)) (C := RX8) (T := TX8) (N := 16) hx hb hts hinX8 hown hK hP 0 rfl rfl 1 (by decide) lk7 (fun _ h9 => h9) rfl dX8_tellsCount_128 ?_
    refine n_iconst hx hb 3 dX8_tellsCount_131 (by decide) ?_
    refine lv_iload_n hx hb dX8_tellsCount_132 rfl (lv_at hl 1 rfl) ?_
    refine n_iadd (a := 3) (b := 11) hx hb dX8_tellsCount_133 ?_
    refine n_top (y := nI 14) rfl ?_
    refine lv_bipush (v := nI 11) hx hb dX8_tellsCount_134 (by decide) ?_
    refine n_isub (a := 14) (b := 11) hx hb (by omega) dX8_tellsCount_136 ?_
    refine n_iald hx hb hK hP 1 0 rfl rfl (14 - 11) (by omega) (by decide) dX8_tellsCount_137 ?_
    subst hQ
    exact e_ro hx hb hr hlocks rfl dX8_tellsCount_138
  · skip
    refine n_tab (a := 12) (off := 126) (tgt := 127) hx hb (by decide) dX8_tellsCount_1 (by decide) (by decide) rfl (by decide) ?_
    refine lv_aload_n hx hb dX8_tellsCount_127 rfl (lv_at hl 0 rfl) ?_
    refine va_get (D := G) (ci := 8) (v := .ref (q 2)) (C := RX8) (T := TX8) (N := 16) hx hb hts hinX8 hown hK hP 0 rfl rfl 1 (by decide) lk7 (fun _ h9 => h9) rfl dX8_tellsCount_128 ?_
    refine n_iconst hx hb 3 dX8_tellsCount_131 (by decide) ?_
    refine lv_iload_n hx hb dX8_tellsCount_132 rfl (lv_at hl 1 rfl) ?_
    refine n_iadd (a := 3) (b := 12) hx hb dX8_tellsCount_133 ?_
    refine n_top (y := nI 15) rfl ?_
    refine lv_bipush (v := nI 11) hx hb dX8_tellsCount_134 (by decide) ?_
    refine n_isub (a := 15) (b := 11) hx hb (by omega) dX8_tellsCount_136 ?_
    refine n_iald hx hb hK hP 1 0 rfl rfl (15 - 11) (by omega) (by decide) dX8_tellsCount_137 ?_
    subst hQ
    exact e_ro hx hb hr hlocks rfl dX8_tellsCount_138
  · skip
    refine n_tabO (tgt := 139) hx hb dX8_tellsCount_1 0 13 (by decide) rfl rfl (by decide) ?_
    refine lv_aload_n hx hb dX8_tellsCount_139 rfl (lv_at hl 0 rfl) ?_
    refine va_get (D := G) (ci := 8) (v := .int (Z 0 3)) (C := RX8) (T := TX8) (N := 16) hx hb hts hinX8 hown hK hP 0 rfl rfl 3 (by decide) lk36 (fun _ h9 => h9) rfl dX8_tellsCount_140 ?_
    subst hQ
    exact e_ro hx hb hr hlocks rfl dX8_tellsCount_143
set_option maxHeartbeats 4000000 in
set_option maxRecDepth 100000 in
theorem c_X8_findKey (l : Launch) (G : va_G) (T : Nat → ClassId) (A : Nat → Prop) (q : Nat → Nat) (Z : Nat → Nat → Int32) (g : Int64) (n : Nat) (hmany : Z 0 13 = nI n) (hn9 : n ≤ 9) : RO l yX8_findKey wsX8_findKey 4 G T A (oX8 T q Z g) [.ref (q 0)] (mFk Z n) := by
  refine Met.ofW (cc := cX8_findKey) (maxL := 2) (ret := (some .int)) (by decide) rfl ?_
  intro p e s m args below meth c s₁ B hml hv
  obtain ⟨ha, hP, hK, hE⟩ := hv
  have hx := B.exec
  have hb := B.bytes
  have hr := B.returns
  have hlocks := B.notSynchronized
  have hts := atoms_spec (ws := wsX8_findKey) B.pre
  have hown : s.vm.findClass RX8 = some m.cls := findClass_of_methodNamed B.named
  have cx : CallFix p m c cX8_findKey 2 s args wsX8_findKey RX8 := ⟨hx, hb, hml, hown, hts⟩
  refine w_entry ha (Nat.le_of_ble_eq_true rfl) (fun ls hl => ?_)
  refine w_q (fun Q0 hQ => ?_)
  have hl : lv_has ls 2 [(0, .ref (q 0))] := hl
  have hP : va_P G vwCl [(q 0, .inr (8, [.int (Z 0 0), .ref (q 2), .ref (q 3), .int (Z 0 3), .ref (q 5), .int (Z 0 5), .ref (q 7), .int (Z 0 7), .int (Z 0 8), .int (Z 0 9), .int (Z 0 10), .int (Z 0 11), .ref (q 13), .int (Z 0 13), .ref (q 15), .long g])), (q 2, .inl (T 0, 267, .inl (Z 2))), (q 3, .inl (T 0, 1602, .inl (Z 3))), (q 5, .inl (T 0, 267, .inl (Z 5))), (q 7, .inl (T 0, 60, .inl (Z 7))), (q 13, .inl (T 0, 8, .inl (Z 13))), (q 15, .inl (T 0, 3, .inl (Z 15)))] s.heap := hP
  refine n_iconst hx hb 0 dX8_findKey_0 (by decide) ?_
  refine lv_istore_n (lv' := [(1, .int (nI 0)), (0, .ref (q 0))]) hx hb dX8_findKey_1 rfl hl (by decide) rfl (fun ls hl => ?_)
  have L2 : ∀ (n9 k : Nat) (hk1 : k ≤ 7) (hk2 : 7 - k < n9) (hno : mFk Z n = mFind (mFkP Z n) (7 - k) k) (x1 : Int32) (hx1 : x1 = nI k) (ls : Array Slot) (hl : lv_has ls 2 [(1, .int x1), (0, .ref (q 0))]), W p l e (headSpec wsX8_findKey (rmD 4 0 0)).room s m args below meth c s.heap [] 0 0 Q0 (F0 m 2 ls []) := by
    intro n9
    induction n9 with
    | zero => intros; omega
    | succ n9 ih2 =>
      intro k hk1 hk2 hno x1 hx1 ls hl
      subst hx1
      refine lv_iload_n hx hb dX8_findKey_2 rfl (lv_at hl 0 rfl) ?_
      refine lv_bipush (v := nI 7) hx hb dX8_findKey_3 (by decide) ?_
      refine n_icmp_ge (a := k) (b := 7) (tgt := 25) hx hb (by omega) (by decide) dX8_findKey_5 (by decide) (fun c_1 => ?_) (fun c_2 => ?_)
      · skip
        refine lv_iconst (v := -1) hx hb dX8_findKey_25 (by decide) ?_
        subst hQ
        exact e_ro hx hb hr hlocks (by obtain rfl : k = 7 := (by omega); rw [hno]; rfl) dX8_findKey_26
      · skip
        refine lv_aload_n hx hb dX8_findKey_8 rfl (lv_at hl 1 rfl) ?_
        refine lv_iload_n hx hb dX8_findKey_9 rfl (lv_at hl 0 rfl) ?_
        refine k_roV (As := [.int (nI k)]) (rest := []) (wc := oX8 T q Z g) (d := 3) (v := mDe Z n (nI k)) cx (c_X8_decoded l G T A q Z g (nI k) n (by first | assumption | rfl | omega) (by omega)) (cwV 1 hts gX8_findKey_X8_decoded rfl rfl rfl (by decide +kernel) ⟨Nat.le_of_ble_eq_true rfl, Nat.le_of_ble_eq_true rfl⟩) hP hK hE (va_recv hK hP (ci := 8) (q0 := 0) rfl rfl) rfl hl.1 rfl (Nat.le_of_ble_eq_true rfl) dX8_findKey_10 ⟨Nat.le_of_ble_eq_true rfl, Nat.le_of_ble_eq_true rfl⟩ ?_
        refine lv_iconst (v := -1) hx hb dX8_findKey_13 (by decide) ?_
        refine lv_icmp_eq (tgt := 19) hx hb dX8_findKey_14 (by decide) (fun c_3 => ?_) (fun c_4 => ?_)
        · skip
          refine lv_iinc (v := nI (k + 1)) (lv' := [(1, .int (nI (k + 1))), (0, .ref (q 0))]) hx hb dX8_findKey_19 hl (k := 0) rfl (n_inc k 1 rfl) (by decide) rfl (fun ls hl => ?_)
          refine lv_goto (tgt := 2) hx hb dX8_findKey_22 (by decide) ?_
          exact ih2 (k + 1) (by omega) (by omega) (by rw [hno, mFind_n (by omega) (by simp [mFkP, c_2, c_3])]) _ rfl _ (lv_sub hl [0, 1] rfl)
        · skip
          refine lv_iload_n hx hb dX8_findKey_17 rfl (lv_at hl 0 rfl) ?_
          subst hQ
          exact e_ro hx hb hr hlocks (by rw [hno, mFind_y (by omega) (by simp [mFkP, c_2, c_4])]) dX8_findKey_18
  exact L2 (7 + 1) 0 (by omega) (by omega) rfl _ rfl _ (lv_sub hl [0, 1] rfl)
set_option maxHeartbeats 4000000 in
set_option maxRecDepth 100000 in
theorem c_X8_wouldBring (l : Launch) (G : va_G) (T : Nat → ClassId) (A : Nat → Prop) (q : Nat → Nat) (Z : Nat → Nat → Int32) (g : Int64) (r : Nat) (mm : Nat) (w : Nat) (hr6 : r < 6) (hm20 : mm < 20) (hw : w ≤ 3) : RO l yX8_wouldBring wsX8_wouldBring 5 G T A (oX8 T q Z g) [.ref (q 0), .int (nI r), .int (nI mm), .int (nI w)] (mWB Z r mm w) := by
  refine Met.ofW (cc := cX8_wouldBring) (maxL := 4) (ret := (some .int)) (by decide) rfl ?_
  intro p e s m args below meth c s₁ B hml hv
  obtain ⟨ha, hP, hK, hE⟩ := hv
  have hx := B.exec
  have hb := B.bytes
  have hr := B.returns
  have hlocks := B.notSynchronized
  have hts := atoms_spec (ws := wsX8_wouldBring) B.pre
  have hown : s.vm.findClass RX8 = some m.cls := findClass_of_methodNamed B.named
  have cx : CallFix p m c cX8_wouldBring 4 s args wsX8_wouldBring RX8 := ⟨hx, hb, hml, hown, hts⟩
  refine w_entry ha (Nat.le_of_ble_eq_true rfl) (fun ls hl => ?_)
  refine w_q (fun Q0 hQ => ?_)
  have hl : lv_has ls 4 [(0, .ref (q 0)), (1, .int (nI r)), (2, .int (nI mm)), (3, .int (nI w))] := hl
  have hP : va_P G vwCl [(q 0, .inr (8, [.int (Z 0 0), .ref (q 2), .ref (q 3), .int (Z 0 3), .ref (q 5), .int (Z 0 5), .ref (q 7), .int (Z 0 7), .int (Z 0 8), .int (Z 0 9), .int (Z 0 10), .int (Z 0 11), .ref (q 13), .int (Z 0 13), .ref (q 15), .long g])), (q 2, .inl (T 0, 267, .inl (Z 2))), (q 3, .inl (T 0, 1602, .inl (Z 3))), (q 5, .inl (T 0, 267, .inl (Z 5))), (q 7, .inl (T 0, 60, .inl (Z 7))), (q 13, .inl (T 0, 8, .inl (Z 13))), (q 15, .inl (T 0, 3, .inl (Z 15)))] s.heap := hP
  refine lv_aload_n hx hb dX8_wouldBring_0 rfl (lv_at hl 0 rfl) ?_
  refine lv_iload_n hx hb dX8_wouldBring_1 rfl (lv_at hl 1 rfl) ?_
  refine lv_iload_n hx hb dX8_wouldBring_2 rfl (lv_at hl 2 rfl) ?_
  refine k_roV (As := [.int (nI r), .int (nI mm)]) (rest := []) (wc := oX8 T q Z g) (d := 2) (v := mWy Z r mm) cx (c_X8_whyNotWhistled l G T A q Z g r mm (by omega) (by omega)) (cwV 2 hts gX8_wouldBring_X8_whyNotWhistled rfl rfl rfl (by decide +kernel) ⟨Nat.le_of_ble_eq_true rfl, Nat.le_of_ble_eq_true rfl⟩) hP hK hE (va_recv hK hP (ci := 8) (q0 := 0) rfl rfl) rfl hl.1 rfl (Nat.le_of_ble_eq_true rfl) dX8_wouldBring_3 ⟨Nat.le_of_ble_eq_true rfl, Nat.le_of_ble_eq_true rfl⟩ ?_
  refine lv_if_eq (tgt := 11) hx hb dX8_wouldBring_6 (by decide) (fun c_1 => ?_) (fun c_2 => ?_)
  · skip
    refine lv_iload_n hx hb dX8_wouldBring_11 rfl (lv_at hl 3 rfl) ?_
    refine n_if_ne (a := w) (tgt := 23) hx hb (by omega) dX8_wouldBring_12 (by decide) (fun c_3 => ?_) (fun c_4 => ?_)
    · skip
      refine lv_iload_n hx hb dX8_wouldBring_23 rfl (lv_at hl 3 rfl) ?_
      refine n_iconst hx hb 1 dX8_wouldBring_24 (by decide) ?_
      refine n_icmp_ne (a := w) (b := 1) (tgt := 36) hx hb (by omega) (by decide) dX8_wouldBring_25 (by decide) (fun c_5 => ?_) (fun c_6 => ?_)
      · skip
        refine lv_iload_n hx hb dX8_wouldBring_36 rfl (lv_at hl 3 rfl) ?_
        refine n_iconst hx hb 2 dX8_wouldBring_37 (by decide) ?_
        refine n_icmp_ne (a := w) (b := 2) (tgt := 50) hx hb (by omega) (by decide) dX8_wouldBring_38 (by decide) (fun c_7 => ?_) (fun c_8 => ?_)
        · skip
          refine lv_aload_n hx hb dX8_wouldBring_50 rfl (lv_at hl 0 rfl) ?_
          refine lv_iload_n hx hb dX8_wouldBring_51 rfl (lv_at hl 1 rfl) ?_
          refine lv_iload_n hx hb dX8_wouldBring_52 rfl (lv_at hl 2 rfl) ?_
          refine k_roV (As := [.int (nI r), .int (nI mm)]) (rest := []) (wc := oX8 T q Z g) (d := 4) (v := mRa Z r mm) cx (c_X8_raisedBy l G T A q Z g r mm (by omega) (by omega)) (cwV 2 hts gX8_wouldBring_X8_raisedBy rfl rfl rfl (by decide +kernel) ⟨Nat.le_of_ble_eq_true rfl, Nat.le_of_ble_eq_true rfl⟩) hP hK hE (va_recv hK hP (ci := 8) (q0 := 0) rfl rfl) rfl hl.1 rfl (Nat.le_of_ble_eq_true rfl) dX8_wouldBring_53 ⟨Nat.le_of_ble_eq_true rfl, Nat.le_of_ble_eq_true rfl⟩ ?_
          subst hQ
          exact e_ro hx hb hr hlocks (by unfold mWB; first | (rw [if_neg (by assumption)]; done) | (rw [if_pos (show mWy Z r mm = 0 by assumption)]; first | rw [if_pos (by omega)] | rw [if_neg (by omega), if_pos (by omega)] | rw [if_neg (by omega), if_neg (by omega), if_pos (by omega)] | rw [if_neg (by omega), if_neg (by omega), if_neg (by omega)])) dX8_wouldBring_56
        · skip
          refine lv_aload_n hx hb dX8_wouldBring_41 rfl (lv_at hl 0 rfl) ?_
          refine lv_iload_n hx hb dX8_wouldBring_42 rfl (lv_at hl 1 rfl) ?_
          refine lv_iload_n hx hb dX8_wouldBring_43 rfl (lv_at hl 2 rfl) ?_
          refine k_roV (As := [.int (nI r), .int (nI mm)]) (rest := []) (wc := oX8 T q Z g) (d := 2) (v := mCa Z r mm 3) cx (c_X8_catchers l G T A q Z g r mm (by omega) (by omega)) (cwV 2 hts gX8_wouldBring_X8_catchers rfl rfl rfl (by decide +kernel) ⟨Nat.le_of_ble_eq_true rfl, Nat.le_of_ble_eq_true rfl⟩) hP hK hE (va_recv hK hP (ci := 8) (q0 := 0) rfl rfl) rfl hl.1 rfl (Nat.le_of_ble_eq_true rfl) dX8_wouldBring_44 ⟨Nat.le_of_ble_eq_true rfl, Nat.le_of_ble_eq_true rfl⟩ ?_
          refine lv_goto (tgt := 56) hx hb dX8_wouldBring_47 (by decide) ?_
          subst hQ
          exact e_ro hx hb hr hlocks (by unfold mWB; first | (rw [if_neg (by assumption)]; done) | (rw [if_pos (show mWy Z r mm = 0 by assumption)]; first | rw [if_pos (by omega)] | rw [if_neg (by omega), if_pos (by omega)] | rw [if_neg (by omega), if_neg (by omega), if_pos (by omega)] | rw [if_neg (by omega), if_neg (by omega), if_neg (by omega)])) dX8_wouldBring_56
      · skip
        refine lv_aload_n hx hb dX8_wouldBring_28 rfl (lv_at hl 0 rfl) ?_
        refine lv_iload_n hx hb dX8_wouldBring_29 rfl (lv_at hl 1 rfl) ?_
        refine k_roV (As := [.int (nI r)]) (rest := []) (wc := oX8 T q Z g) (d := 3) (v := mKn Z r 6) cx (c_X8_knowers l G T A q Z g r (by omega)) (cwV 1 hts gX8_wouldBring_X8_knowers rfl rfl rfl (by decide +kernel) ⟨Nat.le_of_ble_eq_true rfl, Nat.le_of_ble_eq_true rfl⟩) hP hK hE (va_recv hK hP (ci := 8) (q0 := 0) rfl rfl) rfl hl.1 rfl (Nat.le_of_ble_eq_true rfl) dX8_wouldBring_30 ⟨Nat.le_of_ble_eq_true rfl, Nat.le_of_ble_eq_true rfl⟩ ?_
        refine lv_goto (tgt := 56) hx hb dX8_wouldBring_33 (by decide) ?_
        subst hQ
        exact e_ro hx hb hr hlocks (by unfold mWB; first | (rw [if_neg (by assumption)]; done) | (rw [if_pos (show mWy Z r mm = 0 by assumption)]; first | rw [if_pos (by omega)] | rw [if_neg (by omega), if_pos (by omega)] | rw [if_neg (by omega), if_neg (by omega), if_pos (by omega)] | rw [if_neg (by omega), if_neg (by omega), if_neg (by omega)])) dX8_wouldBring_56
    · skip
      refine lv_aload_n hx hb dX8_wouldBring_15 rfl (lv_at hl 0 rfl) ?_
      refine lv_iload_n hx hb dX8_wouldBring_16 rfl (lv_at hl 1 rfl) ?_
      refine k_roV (As := [.int (nI r)]) (rest := []) (wc := oX8 T q Z g) (d := 2) (v := mHe Z r 6) cx (c_X8_hearers l G T A q Z g r (by omega)) (cwV 1 hts gX8_wouldBring_X8_hearers rfl rfl rfl (by decide +kernel) ⟨Nat.le_of_ble_eq_true rfl, Nat.le_of_ble_eq_true rfl⟩) hP hK hE (va_recv hK hP (ci := 8) (q0 := 0) rfl rfl) rfl hl.1 rfl (Nat.le_of_ble_eq_true rfl) dX8_wouldBring_17 ⟨Nat.le_of_ble_eq_true rfl, Nat.le_of_ble_eq_true rfl⟩ ?_
      refine lv_goto (tgt := 56) hx hb dX8_wouldBring_20 (by decide) ?_
      subst hQ
      exact e_ro hx hb hr hlocks (by unfold mWB; first | (rw [if_neg (by assumption)]; done) | (rw [if_pos (show mWy Z r mm = 0 by assumption)]; first | rw [if_pos (by omega)] | rw [if_neg (by omega), if_pos (by omega)] | rw [if_neg (by omega), if_neg (by omega), if_pos (by omega)] | rw [if_neg (by omega), if_neg (by omega), if_neg (by omega)])) dX8_wouldBring_56
  · skip
    refine lv_iconst (v := -1) hx hb dX8_wouldBring_9 (by decide) ?_
    subst hQ
    exact e_ro hx hb hr hlocks (by unfold mWB; first | (rw [if_neg (by assumption)]; done) | (rw [if_pos (show mWy Z r mm = 0 by assumption)]; first | rw [if_pos (by omega)] | rw [if_neg (by omega), if_pos (by omega)] | rw [if_neg (by omega), if_neg (by omega), if_pos (by omega)] | rw [if_neg (by omega), if_neg (by omega), if_neg (by omega)])) dX8_wouldBring_10
set_option maxHeartbeats 4000000 in
set_option maxRecDepth 100000 in
theorem c_X8_findRoom (l : Launch) (G : va_G) (T : Nat → ClassId) (A : Nat → Prop) (q : Nat → Nat) (Z : Nat → Nat → Int32) (g : Int64) (mm : Nat) (hm20 : mm < 20) : RO l yX8_findRoom wsX8_findRoom 4 G T A (oX8 T q Z g) [.ref (q 0), .int (nI mm)] (mFr Z mm 6).1 := by
  refine Met.ofW (cc := cX8_findRoom) (maxL := 7) (ret := (some .int)) (by decide) rfl ?_
  intro p e s m args below meth c s₁ B hml hv
  obtain ⟨ha, hP, hK, hE⟩ := hv
  have hx := B.exec
  have hb := B.bytes
  have hr := B.returns
  have hlocks := B.notSynchronized
  have hts := atoms_spec (ws := wsX8_findRoom) B.pre
  have hown : s.vm.findClass RX8 = some m.cls := findClass_of_methodNamed B.named
  have cx : CallFix p m c cX8_findRoom 7 s args wsX8_findRoom RX8 := ⟨hx, hb, hml, hown, hts⟩
  refine w_entry ha (Nat.le_of_ble_eq_true rfl) (fun ls hl => ?_)
  refine w_q (fun Q0 hQ => ?_)
  have hl : lv_has ls 7 [(0, .ref (q 0)), (1, .int (nI mm))] := hl
  have hP : va_P G vwCl [(q 0, .inr (8, [.int (Z 0 0), .ref (q 2), .ref (q 3), .int (Z 0 3), .ref (q 5), .int (Z 0 5), .ref (q 7), .int (Z 0 7), .int (Z 0 8), .int (Z 0 9), .int (Z 0 10), .int (Z 0 11), .ref (q 13), .int (Z 0 13), .ref (q 15), .long g])), (q 2, .inl (T 0, 267, .inl (Z 2))), (q 3, .inl (T 0, 1602, .inl (Z 3))), (q 5, .inl (T 0, 267, .inl (Z 5))), (q 7, .inl (T 0, 60, .inl (Z 7))), (q 13, .inl (T 0, 8, .inl (Z 13))), (q 15, .inl (T 0, 3, .inl (Z 15)))] s.heap := hP
  refine lv_iconst (v := -1) hx hb dX8_findRoom_0 (by decide) ?_
  refine lv_istore_n (lv' := [(2, .int (-1)), (0, .ref (q 0)), (1, .int (nI mm))]) hx hb dX8_findRoom_1 rfl hl (by decide) rfl (fun ls hl => ?_)
  refine n_iconst hx hb 0 dX8_findRoom_2 (by decide) ?_
  refine lv_istore_n (lv' := [(3, .int (nI 0)), (2, .int (-1)), (0, .ref (q 0)), (1, .int (nI mm))]) hx hb dX8_findRoom_3 rfl hl (by decide) rfl (fun ls hl => ?_)
  refine n_iconst hx hb 0 dX8_findRoom_4 (by decide) ?_
  refine lv_istore (lv' := [(4, .int (nI 0)), (3, .int (nI 0)), (2, .int (-1)), (0, .ref (q 0)), (1, .int (nI mm))]) hx hb dX8_findRoom_5 hl (by decide) rfl (fun ls hl => ?_)
  have L7 : ∀ (n9 k : Nat) (hk1 : k ≤ 6) (hk2 : 6 - k < n9) (x4 : Int32) (x3 : Int32) (x2 : Int32) (hx4 : x4 = nI k) (hx3 : x3 = (mFr Z mm k).2) (hx2 : x2 = (mFr Z mm k).1) (ls : Array Slot) (hl : lv_has ls 7 [(4, .int x4), (3, .int x3), (2, .int x2), (0, .ref (q 0)), (1, .int (nI mm))]), W p l e (headSpec wsX8_findRoom (rmD 4 0 0)).room s m args below meth c s.heap [] 0 0 Q0 (F0 m 7 ls []) := by
    intro n9
    induction n9 with
    | zero => intros; omega
    | succ n9 ih7 =>
      intro k hk1 hk2 x4 x3 x2 hx4 hx3 hx2 ls hl
      subst hx4 hx3 hx2
      refine lv_iload hx hb dX8_findRoom_7 (lv_at hl 0 rfl) ?_
      refine lv_bipush (v := nI 6) hx hb dX8_findRoom_9 (by decide) ?_
      refine n_icmp_ge (a := k) (b := 6) (tgt := 108) hx hb (by omega) (by decide) dX8_findRoom_11 (by decide) (fun c_1 => ?_) (fun c_2 => ?_)
      · skip
        refine lv_iload_n hx hb dX8_findRoom_108 rfl (lv_at hl 2 rfl) ?_
        subst hQ
        exact e_ro hx hb hr hlocks (by obtain rfl : k = 6 := (by omega); rfl) dX8_findRoom_109
      · skip
        refine lv_aload_n hx hb dX8_findRoom_14 rfl (lv_at hl 3 rfl) ?_
        refine lv_iload hx hb dX8_findRoom_15 (lv_at hl 0 rfl) ?_
        refine lv_iload_n hx hb dX8_findRoom_17 rfl (lv_at hl 4 rfl) ?_
        refine k_roV (As := [.int (nI k), .int (nI mm)]) (rest := []) (wc := oX8 T q Z g) (d := 2) (v := mWy Z k mm) cx (c_X8_whyNotWhistled l G T A q Z g k mm (by omega) (by omega)) (cwV 2 hts gX8_findRoom_X8_whyNotWhistled rfl rfl rfl (by decide +kernel) ⟨Nat.le_of_ble_eq_true rfl, Nat.le_of_ble_eq_true rfl⟩) hP hK hE (va_recv hK hP (ci := 8) (q0 := 0) rfl rfl) rfl hl.1 rfl (Nat.le_of_ble_eq_true rfl) dX8_findRoom_18 ⟨Nat.le_of_ble_eq_true rfl, Nat.le_of_ble_eq_true rfl⟩ ?_
        have J_3 : ∀ y9 : Int32, y9 = (bI (mFc Z mm k)) → W p l e (headSpec wsX8_findRoom (rmD 4 0 0)).room s m args below meth c s.heap [] 0 0 Q0 (F0 m 39 ls (.int y9 :: [])) := by
          intro y9 hy9
          subst hy9
          refine lv_istore (lv' := [(5, .int (bI (mFc Z mm k))), (4, .int (nI k)), (3, .int ((mFr Z mm k).2)), (2, .int ((mFr Z mm k).1)), (0, .ref (q 0)), (1, .int (nI mm))]) hx hb dX8_findRoom_39 hl (by decide) rfl (fun ls hl => ?_)
          refine lv_iload hx hb dX8_findRoom_41 (lv_at hl 0 rfl) ?_
          have J_4 : ∀ y9 : Int32, y9 = (bI (mFm Z mm k (mFr Z mm k))) → W p l e (headSpec wsX8_findRoom (rmD 4 0 0)).room s m args below meth c s.heap [] 0 0 Q0 (F0 m 69 ls (.int y9 :: [])) := by
            intro y9 hy9
            subst hy9
            refine lv_istore (lv' := [(6, .int (bI (mFm Z mm k (mFr Z mm k)))), (5, .int (bI (mFc Z mm k))), (4, .int (nI k)), (3, .int ((mFr Z mm k).2)), (2, .int ((mFr Z mm k).1)), (0, .ref (q 0)), (1, .int (nI mm))]) hx hb dX8_findRoom_69 hl (by decide) rfl (fun ls hl => ?_)
            refine lv_iload hx hb dX8_findRoom_71 (lv_at hl 0 rfl) ?_
            have J_5 : ∀ y9 : Int32, y9 = (mFr Z mm (k + 1)).1 → W p l e (headSpec wsX8_findRoom (rmD 4 0 0)).room s m args below meth c s.heap [] 0 0 Q0 (F0 m 82 ls (.int y9 :: [])) := by
              intro y9 hy9
              subst hy9
              refine lv_istore_n (lv' := [(2, .int ((mFr Z mm (k + 1)).1)), (6, .int (bI (mFm Z mm k (mFr Z mm k)))), (5, .int (bI (mFc Z mm k))), (4, .int (nI k)), (3, .int ((mFr Z mm k).2)), (0, .ref (q 0)), (1, .int (nI mm))]) hx hb dX8_findRoom_82 rfl hl (by decide) rfl (fun ls hl => ?_)
              refine lv_iload hx hb dX8_findRoom_83 (lv_at hl 1 rfl) ?_
              have J_6 : ∀ y9 : Int32, y9 = (mFr Z mm (k + 1)).2 → W p l e (headSpec wsX8_findRoom (rmD 4 0 0)).room s m args below meth c s.heap [] 0 0 Q0 (F0 m 101 ls (.int y9 :: [])) := by
                intro y9 hy9
                subst hy9
                refine lv_istore_n (lv' := [(3, .int ((mFr Z mm (k + 1)).2)), (2, .int ((mFr Z mm (k + 1)).1)), (6, .int (bI (mFm Z mm k (mFr Z mm k)))), (5, .int (bI (mFc Z mm k))), (4, .int (nI k)), (0, .ref (q 0)), (1, .int (nI mm))]) hx hb dX8_findRoom_101 rfl hl (by decide) rfl (fun ls hl => ?_)
                refine lv_iinc (v := nI (k + 1)) (lv' := [(4, .int (nI (k + 1))), (3, .int ((mFr Z mm (k + 1)).2)), (2, .int ((mFr Z mm (k + 1)).1)), (6, .int (bI (mFm Z mm k (mFr Z mm k)))), (5, .int (bI (mFc Z mm k))), (0, .ref (q 0)), (1, .int (nI mm))]) hx hb dX8_findRoom_102 hl (k := 4) rfl (n_inc k 1 rfl) (by decide) rfl (fun ls hl => ?_)
                refine lv_goto (tgt := 7) hx hb dX8_findRoom_105 (by decide) ?_
                exact ih7 (k + 1) (by omega) (by omega) _ _ _ rfl rfl rfl _ (lv_sub hl [0, 1, 2, 5, 6] rfl)
              refine b_if_eq (b := mFm Z mm k (mFr Z mm k)) (tgt := 100) hx hb dX8_findRoom_85 (by decide) (fun c_7 => ?_) (fun c_8 => ?_)
              · skip
                refine lv_iload_n hx hb dX8_findRoom_100 rfl (lv_at hl 4 rfl) ?_
                exact J_6 _ (by simp only [mFr]; first | rw [if_pos c_7] | rw [if_neg (by rw [c_7]; decide)])
              · skip
                refine lv_aload_n hx hb dX8_findRoom_88 rfl (lv_at hl 5 rfl) ?_
                refine lv_iload hx hb dX8_findRoom_89 (lv_at hl 3 rfl) ?_
                refine k_roV (As := [.int (nI k)]) (rest := []) (wc := oX8 T q Z g) (d := 3) (v := mKn Z k 6) cx (c_X8_knowers l G T A q Z g k (by omega)) (cwV 1 hts gX8_findRoom_X8_knowers rfl rfl rfl (by decide +kernel) ⟨Nat.le_of_ble_eq_true rfl, Nat.le_of_ble_eq_true rfl⟩) hP hK hE (va_recv hK hP (ci := 8) (q0 := 0) rfl rfl) rfl hl.1 rfl (Nat.le_of_ble_eq_true rfl) dX8_findRoom_91 ⟨Nat.le_of_ble_eq_true rfl, Nat.le_of_ble_eq_true rfl⟩ ?_
                refine k_roS (As := [.int (mKn Z k 6)]) (rest := []) (wc := []) (d := 0) (v := mOn (mKn Z k 6) 6) cx (c_X8_ones l G T A (mKn Z k 6) ) (va_cwS 1 hts gX8_findRoom_X8_ones rfl rfl rfl (by decide +kernel) ⟨Nat.le_of_ble_eq_true rfl, Nat.le_of_ble_eq_true rfl⟩) (hP.sub (ws' := []) [] rfl) hK hE rfl hl.1 rfl (Nat.le_of_ble_eq_true rfl) dX8_findRoom_94 ⟨Nat.le_of_ble_eq_true rfl, Nat.le_of_ble_eq_true rfl⟩ ?_
                refine lv_goto (tgt := 101) hx hb dX8_findRoom_97 (by decide) ?_
                exact J_6 _ (by simp only [mFr]; first | rw [if_pos c_8] | rw [if_neg (by rw [c_8]; decide)])
            refine b_if_eq (b := mFm Z mm k (mFr Z mm k)) (tgt := 81) hx hb dX8_findRoom_73 (by decide) (fun c_9 => ?_) (fun c_10 => ?_)
            · skip
              refine lv_iload_n hx hb dX8_findRoom_81 rfl (lv_at hl 4 rfl) ?_
              exact J_5 _ (by simp only [mFr]; first | rw [if_pos c_9] | rw [if_neg (by rw [c_9]; decide)])
            · skip
              refine lv_iload hx hb dX8_findRoom_76 (lv_at hl 2 rfl) ?_
              refine lv_goto (tgt := 82) hx hb dX8_findRoom_78 (by decide) ?_
              exact J_5 _ (by simp only [mFr]; first | rw [if_pos c_10] | rw [if_neg (by rw [c_10]; decide)])
          refine b_if_eq (b := mFc Z mm k) (tgt := 68) hx hb dX8_findRoom_43 (by decide) (fun c_11 => ?_) (fun c_12 => ?_)
          · skip
            refine n_iconst hx hb 0 dX8_findRoom_68 (by decide) ?_
            exact J_4 _ (by simp [mFm, bI, c_2, c_11])
          · skip
            refine lv_iload_n hx hb dX8_findRoom_46 rfl (lv_at hl 3 rfl) ?_
            refine lv_iconst (v := -1) hx hb dX8_findRoom_47 (by decide) ?_
            refine lv_icmp_eq (tgt := 64) hx hb dX8_findRoom_48 (by decide) (fun c_13 => ?_) (fun c_14 => ?_)
            · skip
              refine n_iconst hx hb 1 dX8_findRoom_64 (by decide) ?_
              refine lv_goto (tgt := 69) hx hb dX8_findRoom_65 (by decide) ?_
              exact J_4 _ (by simp [mFm, bI, c_2, c_12, c_13])
            · skip
              refine lv_aload_n hx hb dX8_findRoom_51 rfl (lv_at hl 4 rfl) ?_
              refine lv_iload hx hb dX8_findRoom_52 (lv_at hl 1 rfl) ?_
              refine k_roV (As := [.int (nI k)]) (rest := []) (wc := oX8 T q Z g) (d := 3) (v := mKn Z k 6) cx (c_X8_knowers l G T A q Z g k (by omega)) (cwV 1 hts gX8_findRoom_X8_knowers rfl rfl rfl (by decide +kernel) ⟨Nat.le_of_ble_eq_true rfl, Nat.le_of_ble_eq_true rfl⟩) hP hK hE (va_recv hK hP (ci := 8) (q0 := 0) rfl rfl) rfl hl.1 rfl (Nat.le_of_ble_eq_true rfl) dX8_findRoom_54 ⟨Nat.le_of_ble_eq_true rfl, Nat.le_of_ble_eq_true rfl⟩ ?_
              refine k_roS (As := [.int (mKn Z k 6)]) (rest := []) (wc := []) (d := 0) (v := mOn (mKn Z k 6) 6) cx (c_X8_ones l G T A (mKn Z k 6) ) (va_cwS 1 hts gX8_findRoom_X8_ones rfl rfl rfl (by decide +kernel) ⟨Nat.le_of_ble_eq_true rfl, Nat.le_of_ble_eq_true rfl⟩) (hP.sub (ws' := []) [] rfl) hK hE rfl hl.1 rfl (Nat.le_of_ble_eq_true rfl) dX8_findRoom_57 ⟨Nat.le_of_ble_eq_true rfl, Nat.le_of_ble_eq_true rfl⟩ ?_
              refine lv_iload_n hx hb dX8_findRoom_60 rfl (lv_at hl 2 rfl) ?_
              refine lv_icmp_le (tgt := 68) hx hb dX8_findRoom_61 (by decide) (fun c_15 => ?_) (fun c_16 => ?_)
              · skip
                refine n_iconst hx hb 0 dX8_findRoom_68 (by decide) ?_
                exact J_4 _ (by simp [mFm, bI, c_2, c_12, c_14, c_15])
              · skip
                refine n_iconst hx hb 1 dX8_findRoom_64 (by decide) ?_
                refine lv_goto (tgt := 69) hx hb dX8_findRoom_65 (by decide) ?_
                exact J_4 _ (by simp [mFm, bI, c_2, c_12, c_14, c_16])
        refine lv_if_ne (tgt := 38) hx hb dX8_findRoom_21 (by decide) (fun c_17 => ?_) (fun c_18 => ?_)
        · skip
          refine n_iconst hx hb 0 dX8_findRoom_38 (by decide) ?_
          exact J_3 _ (by simp [mFc, bI, c_2, c_17])
        · skip
          refine lv_aload_n hx hb dX8_findRoom_24 rfl (lv_at hl 3 rfl) ?_
          refine lv_iload hx hb dX8_findRoom_25 (lv_at hl 0 rfl) ?_
          refine lv_iload_n hx hb dX8_findRoom_27 rfl (lv_at hl 4 rfl) ?_
          refine k_roV (As := [.int (nI k), .int (nI mm)]) (rest := []) (wc := oX8 T q Z g) (d := 2) (v := mCa Z k mm 3) cx (c_X8_catchers l G T A q Z g k mm (by omega) (by omega)) (cwV 2 hts gX8_findRoom_X8_catchers rfl rfl rfl (by decide +kernel) ⟨Nat.le_of_ble_eq_true rfl, Nat.le_of_ble_eq_true rfl⟩) hP hK hE (va_recv hK hP (ci := 8) (q0 := 0) rfl rfl) rfl hl.1 rfl (Nat.le_of_ble_eq_true rfl) dX8_findRoom_28 ⟨Nat.le_of_ble_eq_true rfl, Nat.le_of_ble_eq_true rfl⟩ ?_
          refine lv_if_ne (tgt := 38) hx hb dX8_findRoom_31 (by decide) (fun c_19 => ?_) (fun c_20 => ?_)
          · skip
            refine n_iconst hx hb 0 dX8_findRoom_38 (by decide) ?_
            exact J_3 _ (by simp [mFc, bI, c_2, c_18, c_19])
          · skip
            refine n_iconst hx hb 1 dX8_findRoom_34 (by decide) ?_
            refine lv_goto (tgt := 39) hx hb dX8_findRoom_35 (by decide) ?_
            exact J_3 _ (by simp [mFc, bI, c_2, c_18, c_20])
  exact L7 (6 + 1) 0 (by omega) (by omega) _ _ _ rfl rfl rfl _ (lv_sub hl [0, 1, 2, 3, 4] rfl)
