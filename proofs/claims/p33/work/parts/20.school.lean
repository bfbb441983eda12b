/-! School and the small static methods: what they answer (pure), then their contracts (printed by wip/p33/s20.py) -/
/-- 0 ≤ x < n -/
def pBt (x : Int32) (n : Nat) : Bool := decide (¬ x < 0 ∧ ¬ nI n ≤ x)
def pHB (x y : Int32) : Bool := decide (iShr x y &&& nI 1 = nI 1)
def pVO (x y : Int32) : Bool := if x = 0 then decide (¬ y < 0 ∧ ¬ nI 2 < y) else decide (¬ y < nI 1 ∧ ¬ nI 9 < y)
def pSil (S : Nat → Nat → Int32) (r : Nat) : Bool := decide (¬ S 12 r < S 5 1)
def pWhy (S : Nat → Nat → Int32) (r m : Nat) : Int32 := if pSil S r then nI 1 else if S 6 m = 0 then nI 2 else nI 0
def pNr (S : Nat → Nat → Int32) (a b : Nat) : Bool := decide (¬ S 5 0 < nI a - nI b ∧ ¬ S 5 0 < nI b - nI a)
def pFA (S : Nat → Nat → Int32) (f : Nat) : Nat → Int32 | 0 => nI 0 | k + 1 => if pNr S k f then pFA S f k ||| iShl (nI 1) (nI k) else pFA S f k
def pFHi (S : Nat → Nat → Int32) (x : Int32) : Nat → Int32 | 0 => x | j + 1 => if pHB (pFHi S x j &&& S 0 2) (nI j) then pFHi S x j ||| pFA S j 3 else pFHi S x j
def pFHo (S : Nat → Nat → Int32) (r : Nat) : Nat → Int32 | 0 => pFA S (r / 2) 3 | k + 1 => pFHi S (pFHo S r k) 3
def pRO (x : Int32) : Nat → Int32 | 0 => nI 0 | k + 1 => if pHB x (nI (k / 2)) then pRO x k ||| iShl (nI 1) (nI k) else pRO x k
def pMO (S : Nat → Nat → Int32) (x : Int32) : Nat → Int32 | 0 => nI 0 | k + 1 => if pHB x (iRem (nI k + S 0 0) (nI 3)) then pMO S x k ||| iShl (nI 1) (nI k) else pMO S x k
def pRK (S : Nat → Nat → Int32) (x : Int32) : Nat → Int32 | 0 => nI 0 | k + 1 => if S 11 k = x then pRK S x k ||| iShl (nI 1) (nI k) else pRK S x k
def pMT (S : Nat → Nat → Int32) : Nat → Nat | 0 => 0 | k + 1 => if S 6 k ≤ 0 then pMT S k else pMT S k + 1
def pLT (S : Nat → Nat → Int32) : Nat → Int32 | 0 => nI 0 | k + 1 => if pLT S k < S 6 k then S 6 k else pLT S k
def pSR (S : Nat → Nat → Int32) : Nat → Nat | 0 => 0 | k + 1 => if pSil S k then pSR S k + 1 else pSR S k
theorem pMT_le (S : Nat → Nat → Int32) (k : Nat) : pMT S k ≤ k := by
  induction k with
  | zero => exact Nat.le_refl 0
  | succ k ih => simp only [pMT]; split <;> omega
theorem pSR_le (S : Nat → Nat → Int32) (k : Nat) : pSR S k ≤ k := by
  induction k with
  | zero => exact Nat.le_refl 0
  | succ k ih => simp only [pSR]; split <;> omega

set_option maxHeartbeats 4000000 in
set_option maxRecDepth 100000 in
theorem c_X7_isMessage (l : Launch) (G : va_G) (T : Nat → ClassId) (A : Nat → Prop) (x : Int32) : RO l yX7_isMessage wsX7_isMessage 0 G T A ([]) [.int x] (bI (pBt x 20)) := by
  refine Met.ofW (cc := cX7_isMessage) (maxL := 1) (ret := (some .boolean)) (by decide) rfl ?_
  intro p e s m args below meth c s₁ B hml hv
  obtain ⟨ha, hP, hK, hE⟩ := hv
  have hx := B.exec
  have hb := B.bytes
  have hr := B.returns
  have hlocks := B.notSynchronized
  have hts := atoms_spec (ws := wsX7_isMessage) B.pre
  have hown : s.vm.findClass RX7 = some m.cls := findClass_of_methodNamed B.named
  have cx : CallFix p m c cX7_isMessage 1 s args wsX7_isMessage RX7 := ⟨hx, hb, hml, hown, hts⟩
  refine w_entry ha (Nat.le_of_ble_eq_true rfl) (fun ls hl => ?_)
  refine w_q (fun Q0 hQ => ?_)
  have hl : lv_has ls 1 [(0, .int x)] := hl
  have hP : va_P G vwCl [] s.heap := hP
  refine lv_iload_n hx hb dX7_isMessage_0 rfl (lv_at hl 0 rfl) ?_
  refine lv_if_lt (tgt := 14) hx hb dX7_isMessage_1 (by decide) (fun c_1 => ?_) (fun c_2 => ?_)
  · skip
    refine n_iconst hx hb 0 dX7_isMessage_14 (by decide) ?_
    subst hQ
    exact e_roz hx hb hr hlocks (by first | rfl | exact nar_b _) (by simp [pBt, bI, c_1]) dX7_isMessage_15
  · skip
    refine lv_iload_n hx hb dX7_isMessage_4 rfl (lv_at hl 0 rfl) ?_
    refine lv_bipush (v := nI 20) hx hb dX7_isMessage_5 (by decide) ?_
    refine lv_icmp_ge (tgt := 14) hx hb dX7_isMessage_7 (by decide) (fun c_3 => ?_) (fun c_4 => ?_)
    · skip
      refine n_iconst hx hb 0 dX7_isMessage_14 (by decide) ?_
      subst hQ
      exact e_roz hx hb hr hlocks (by first | rfl | exact nar_b _) (by simp [pBt, bI, c_2, c_3]) dX7_isMessage_15
    · skip
      refine n_iconst hx hb 1 dX7_isMessage_10 (by decide) ?_
      refine lv_goto (tgt := 15) hx hb dX7_isMessage_11 (by decide) ?_
      subst hQ
      exact e_roz hx hb hr hlocks (by first | rfl | exact nar_b _) (by simp [pBt, bI, c_2, c_4]) dX7_isMessage_15
set_option maxHeartbeats 4000000 in
set_option maxRecDepth 100000 in
theorem c_X7_isRoom (l : Launch) (G : va_G) (T : Nat → ClassId) (A : Nat → Prop) (x : Int32) : RO l yX7_isRoom wsX7_isRoom 0 G T A ([]) [.int x] (bI (pBt x 6)) := by
  refine Met.ofW (cc := cX7_isRoom) (maxL := 1) (ret := (some .boolean)) (by decide) rfl ?_
  intro p e s m args below meth c s₁ B hml hv
  obtain ⟨ha, hP, hK, hE⟩ := hv
  have hx := B.exec
  have hb := B.bytes
  have hr := B.returns
  have hlocks := B.notSynchronized
  have hts := atoms_spec (ws := wsX7_isRoom) B.pre
  have hown : s.vm.findClass RX7 = some m.cls := findClass_of_methodNamed B.named
  have cx : CallFix p m c cX7_isRoom 1 s args wsX7_isRoom RX7 := ⟨hx, hb, hml, hown, hts⟩
  refine w_entry ha (Nat.le_of_ble_eq_true rfl) (fun ls hl => ?_)
  refine w_q (fun Q0 hQ => ?_)
  have hl : lv_has ls 1 [(0, .int x)] := hl
  have hP : va_P G vwCl [] s.heap := hP
  refine lv_iload_n hx hb dX7_isRoom_0 rfl (lv_at hl 0 rfl) ?_
  refine lv_if_lt (tgt := 14) hx hb dX7_isRoom_1 (by decide) (fun c_1 => ?_) (fun c_2 => ?_)
  · skip
    refine n_iconst hx hb 0 dX7_isRoom_14 (by decide) ?_
    subst hQ
    exact e_roz hx hb hr hlocks (by first | rfl | exact nar_b _) (by simp [pBt, bI, c_1]) dX7_isRoom_15
  · skip
    refine lv_iload_n hx hb dX7_isRoom_4 rfl (lv_at hl 0 rfl) ?_
    refine lv_bipush (v := nI 6) hx hb dX7_isRoom_5 (by decide) ?_
    refine lv_icmp_ge (tgt := 14) hx hb dX7_isRoom_7 (by decide) (fun c_3 => ?_) (fun c_4 => ?_)
    · skip
      refine n_iconst hx hb 0 dX7_isRoom_14 (by decide) ?_
      subst hQ
      exact e_roz hx hb hr hlocks (by first | rfl | exact nar_b _) (by simp [pBt, bI, c_2, c_3]) dX7_isRoom_15
    · skip
      refine n_iconst hx hb 1 dX7_isRoom_10 (by decide) ?_
      refine lv_goto (tgt := 15) hx hb dX7_isRoom_11 (by decide) ?_
      subst hQ
      exact e_roz hx hb hr hlocks (by first | rfl | exact nar_b _) (by simp [pBt, bI, c_2, c_4]) dX7_isRoom_15
set_option maxHeartbeats 4000000 in
set_option maxRecDepth 100000 in
theorem c_X7_isKey (l : Launch) (G : va_G) (T : Nat → ClassId) (A : Nat → Prop) (x : Int32) : RO l yX7_isKey wsX7_isKey 0 G T A ([]) [.int x] (bI (pBt x 7)) := by
  refine Met.ofW (cc := cX7_isKey) (maxL := 1) (ret := (some .boolean)) (by decide) rfl ?_
  intro p e s m args below meth c s₁ B hml hv
  obtain ⟨ha, hP, hK, hE⟩ := hv
  have hx := B.exec
  have hb := B.bytes
  have hr := B.returns
  have hlocks := B.notSynchronized
  have hts := atoms_spec (ws := wsX7_isKey) B.pre
  have hown : s.vm.findClass RX7 = some m.cls := findClass_of_methodNamed B.named
  have cx : CallFix p m c cX7_isKey 1 s args wsX7_isKey RX7 := ⟨hx, hb, hml, hown, hts⟩
  refine w_entry ha (Nat.le_of_ble_eq_true rfl) (fun ls hl => ?_)
  refine w_q (fun Q0 hQ => ?_)
  have hl : lv_has ls 1 [(0, .int x)] := hl
  have hP : va_P G vwCl [] s.heap := hP
  refine lv_iload_n hx hb dX7_isKey_0 rfl (lv_at hl 0 rfl) ?_
  refine lv_if_lt (tgt := 14) hx hb dX7_isKey_1 (by decide) (fun c_1 => ?_) (fun c_2 => ?_)
  · skip
    refine n_iconst hx hb 0 dX7_isKey_14 (by decide) ?_
    subst hQ
    exact e_roz hx hb hr hlocks (by first | rfl | exact nar_b _) (by simp [pBt, bI, c_1]) dX7_isKey_15
  · skip
    refine lv_iload_n hx hb dX7_isKey_4 rfl (lv_at hl 0 rfl) ?_
    refine lv_bipush (v := nI 7) hx hb dX7_isKey_5 (by decide) ?_
    refine lv_icmp_ge (tgt := 14) hx hb dX7_isKey_7 (by decide) (fun c_3 => ?_) (fun c_4 => ?_)
    · skip
      refine n_iconst hx hb 0 dX7_isKey_14 (by decide) ?_
      subst hQ
      exact e_roz hx hb hr hlocks (by first | rfl | exact nar_b _) (by simp [pBt, bI, c_2, c_3]) dX7_isKey_15
    · skip
      refine n_iconst hx hb 1 dX7_isKey_10 (by decide) ?_
      refine lv_goto (tgt := 15) hx hb dX7_isKey_11 (by decide) ?_
      subst hQ
      exact e_roz hx hb hr hlocks (by first | rfl | exact nar_b _) (by simp [pBt, bI, c_2, c_4]) dX7_isKey_15
set_option maxHeartbeats 4000000 in
set_option maxRecDepth 100000 in
theorem c_X7_hasBit (l : Launch) (G : va_G) (T : Nat → ClassId) (A : Nat → Prop) (x : Int32) (y : Int32) : RO l yX7_hasBit wsX7_hasBit 0 G T A ([]) [.int x, .int y] (bI (pHB x y)) := by
  refine Met.ofW (cc := cX7_hasBit) (maxL := 2) (ret := (some .boolean)) (by decide) rfl ?_
  intro p e s m args below meth c s₁ B hml hv
  obtain ⟨ha, hP, hK, hE⟩ := hv
  have hx := B.exec
  have hb := B.bytes
  have hr := B.returns
  have hlocks := B.notSynchronized
  have hts := atoms_spec (ws := wsX7_hasBit) B.pre
  have hown : s.vm.findClass RX7 = some m.cls := findClass_of_methodNamed B.named
  have cx : CallFix p m c cX7_hasBit 2 s args wsX7_hasBit RX7 := ⟨hx, hb, hml, hown, hts⟩
  refine w_entry ha (Nat.le_of_ble_eq_true rfl) (fun ls hl => ?_)
  refine w_q (fun Q0 hQ => ?_)
  have hl : lv_has ls 2 [(0, .int x), (1, .int y)] := hl
  have hP : va_P G vwCl [] s.heap := hP
  refine lv_iload_n hx hb dX7_hasBit_0 rfl (lv_at hl 0 rfl) ?_
  refine lv_iload_n hx hb dX7_hasBit_1 rfl (lv_at hl 1 rfl) ?_
  refine x_ishr hx hb dX7_hasBit_2 ?_
  refine n_iconst hx hb 1 dX7_hasBit_3 (by decide) ?_
  refine lv_iand hx hb dX7_hasBit_4 ?_
  refine n_iconst hx hb 1 dX7_hasBit_5 (by decide) ?_
  refine lv_icmp_ne (tgt := 13) hx hb dX7_hasBit_6 (by decide) (fun c_1 => ?_) (fun c_2 => ?_)
  · skip
    refine n_iconst hx hb 0 dX7_hasBit_13 (by decide) ?_
    subst hQ
    exact e_roz hx hb hr hlocks (by first | rfl | exact nar_b _) (by simp [pHB, bI, c_1]) dX7_hasBit_14
  · skip
    refine n_iconst hx hb 1 dX7_hasBit_9 (by decide) ?_
    refine lv_goto (tgt := 14) hx hb dX7_hasBit_10 (by decide) ?_
    subst hQ
    exact e_roz hx hb hr hlocks (by first | rfl | exact nar_b _) (by simp [pHB, bI, c_2]) dX7_hasBit_14
set_option maxHeartbeats 4000000 in
set_option maxRecDepth 100000 in
theorem c_X7_isValueOf (l : Launch) (G : va_G) (T : Nat → ClassId) (A : Nat → Prop) (x : Int32) (y : Int32) : RO l yX7_isValueOf wsX7_isValueOf 0 G T A ([]) [.int x, .int y] (bI (pVO x y)) := by
  refine Met.ofW (cc := cX7_isValueOf) (maxL := 2) (ret := (some .boolean)) (by decide) rfl ?_
  intro p e s m args below meth c s₁ B hml hv
  obtain ⟨ha, hP, hK, hE⟩ := hv
  have hx := B.exec
  have hb := B.bytes
  have hr := B.returns
  have hlocks := B.notSynchronized
  have hts := atoms_spec (ws := wsX7_isValueOf) B.pre
  have hown : s.vm.findClass RX7 = some m.cls := findClass_of_methodNamed B.named
  have cx : CallFix p m c cX7_isValueOf 2 s args wsX7_isValueOf RX7 := ⟨hx, hb, hml, hown, hts⟩
  refine w_entry ha (Nat.le_of_ble_eq_true rfl) (fun ls hl => ?_)
  refine w_q (fun Q0 hQ => ?_)
  have hl : lv_has ls 2 [(0, .int x), (1, .int y)] := hl
  have hP : va_P G vwCl [] s.heap := hP
  refine lv_iload_n hx hb dX7_isValueOf_0 rfl (lv_at hl 0 rfl) ?_
  refine lv_if_ne (tgt := 21) hx hb dX7_isValueOf_1 (by decide) (fun c_1 => ?_) (fun c_2 => ?_)
  · skip
    refine lv_iload_n hx hb dX7_isValueOf_21 rfl (lv_at hl 1 rfl) ?_
    refine n_iconst hx hb 1 dX7_isValueOf_22 (by decide) ?_
    refine lv_icmp_lt (tgt := 36) hx hb dX7_isValueOf_23 (by decide) (fun c_3 => ?_) (fun c_4 => ?_)
    · skip
      refine n_iconst hx hb 0 dX7_isValueOf_36 (by decide) ?_
      subst hQ
      exact e_roz hx hb hr hlocks (by first | rfl | exact nar_b _) (by simp [pVO, bI, c_1, c_3]) dX7_isValueOf_37
    · skip
      refine lv_iload_n hx hb dX7_isValueOf_26 rfl (lv_at hl 1 rfl) ?_
      refine lv_bipush (v := nI 9) hx hb dX7_isValueOf_27 (by decide) ?_
      refine lv_icmp_gt (tgt := 36) hx hb dX7_isValueOf_29 (by decide) (fun c_5 => ?_) (fun c_6 => ?_)
      · skip
        refine n_iconst hx hb 0 dX7_isValueOf_36 (by decide) ?_
        subst hQ
        exact e_roz hx hb hr hlocks (by first | rfl | exact nar_b _) (by simp [pVO, bI, c_1, c_4, c_5]) dX7_isValueOf_37
      · skip
        refine n_iconst hx hb 1 dX7_isValueOf_32 (by decide) ?_
        refine lv_goto (tgt := 37) hx hb dX7_isValueOf_33 (by decide) ?_
        subst hQ
        exact e_roz hx hb hr hlocks (by first | rfl | exact nar_b _) (by simp [pVO, bI, c_1, c_4, c_6]) dX7_isValueOf_37
  · skip
    refine lv_iload_n hx hb dX7_isValueOf_4 rfl (lv_at hl 1 rfl) ?_
    refine lv_if_lt (tgt := 17) hx hb dX7_isValueOf_5 (by decide) (fun c_7 => ?_) (fun c_8 => ?_)
    · skip
      refine n_iconst hx hb 0 dX7_isValueOf_17 (by decide) ?_
      refine lv_goto (tgt := 37) hx hb dX7_isValueOf_18 (by decide) ?_
      subst hQ
      exact e_roz hx hb hr hlocks (by first | rfl | exact nar_b _) (by simp [pVO, bI, c_2, c_7]) dX7_isValueOf_37
    · skip
      refine lv_iload_n hx hb dX7_isValueOf_8 rfl (lv_at hl 1 rfl) ?_
      refine n_iconst hx hb 2 dX7_isValueOf_9 (by decide) ?_
      refine lv_icmp_gt (tgt := 17) hx hb dX7_isValueOf_10 (by decide) (fun c_9 => ?_) (fun c_10 => ?_)
      · skip
        refine n_iconst hx hb 0 dX7_isValueOf_17 (by decide) ?_
        refine lv_goto (tgt := 37) hx hb dX7_isValueOf_18 (by decide) ?_
        subst hQ
        exact e_roz hx hb hr hlocks (by first | rfl | exact nar_b _) (by simp [pVO, bI, c_2, c_8, c_9]) dX7_isValueOf_37
      · skip
        refine n_iconst hx hb 1 dX7_isValueOf_13 (by decide) ?_
        refine lv_goto (tgt := 37) hx hb dX7_isValueOf_14 (by decide) ?_
        subst hQ
        exact e_roz hx hb hr hlocks (by first | rfl | exact nar_b _) (by simp [pVO, bI, c_2, c_8, c_10]) dX7_isValueOf_37
set_option maxHeartbeats 4000000 in
set_option maxRecDepth 100000 in
theorem c_X3_isSilenced (l : Launch) (G : va_G) (T : Nat → ClassId) (A : Nat → Prop) (q : Nat → Nat) (S : Nat → Nat → Int32) (r : Nat) (hr6 : r < 6) : RO l yX3_isSilenced wsX3_isSilenced 0 G T A (oX3 T q S) [.ref (q 0), .int (nI r)] (bI (pSil S r)) := by
  refine Met.ofW (cc := cX3_isSilenced) (maxL := 2) (ret := (some .boolean)) (by decide) rfl ?_
  intro p e s m args below meth c s₁ B hml hv
  obtain ⟨ha, hP, hK, hE⟩ := hv
  have hx := B.exec
  have hb := B.bytes
  have hr := B.returns
  have hlocks := B.notSynchronized
  have hts := atoms_spec (ws := wsX3_isSilenced) B.pre
  have hown : s.vm.findClass RX3 = some m.cls := findClass_of_methodNamed B.named
  have cx : CallFix p m c cX3_isSilenced 2 s args wsX3_isSilenced RX3 := ⟨hx, hb, hml, hown, hts⟩
  refine w_entry ha (Nat.le_of_ble_eq_true rfl) (fun ls hl => ?_)
  refine w_q (fun Q0 hQ => ?_)
  have lk33 := hts (.fieldLink RX3 33 "WhistleTunes$School" "roomMarks" "[I") (by decide +kernel)
  have hinX3 : ∀ w ∈ wsX30, w ∈ wsX3_isSilenced := by decide +kernel
  have lk9 := hts (.fieldLink RX3 9 "WhistleTunes$School" "settings" "[I") (by decide +kernel)
  have hl : lv_has ls 2 [(0, .ref (q 0)), (1, .int (nI r))] := hl
  have hP : va_P G vwCl [(q 0, .inr (3, [.int (S 0 0), .int (S 0 1), .int (S 0 2), .int (S 0 3), .ref (q 5), .ref (q 6), .ref (q 7), .ref (q 8), .ref (q 9), .ref (q 10), .ref (q 11), .ref (q 12), .ref (q 13), .ref (q 14), .ref (q 15), .ref (q 16)])), (q 5, .inl (T 0, 2, .inl (S 5))), (q 6, .inl (T 0, 20, .inl (S 6))), (q 7, .inl (T 0, 160, .inl (S 7))), (q 8, .inl (T 0, 20, .inl (S 8))), (q 9, .inl (T 0, 20, .inl (S 9))), (q 10, .inl (T 0, 20, .inl (S 10))), (q 11, .inl (T 0, 6, .inl (S 11))), (q 12, .inl (T 0, 6, .inl (S 12))), (q 13, .inl (T 0, 6, .inl (S 13))), (q 14, .inl (T 0, 6, .inl (S 14))), (q 15, .inl (T 0, 6, .inl (S 15))), (q 16, .inl (T 0, 2, .inl (S 16)))] s.heap := hP
  refine lv_aload_n hx hb dX3_isSilenced_0 rfl (lv_at hl 0 rfl) ?_
  refine va_get (D := G) (ci := 3) (v := .ref (q 12)) (C := RX3) (T := TX3) (N := 16) hx hb hts hinX3 hown hK hP 0 rfl rfl 11 (by decide) lk33 (fun _ h9 => h9) rfl dX3_isSilenced_1 ?_
  refine lv_iload_n hx hb dX3_isSilenced_4 rfl (lv_at hl 1 rfl) ?_
  refine n_iald hx hb hK hP 8 0 rfl rfl r (by omega) (by decide) dX3_isSilenced_5 ?_
  refine lv_aload_n hx hb dX3_isSilenced_6 rfl (lv_at hl 0 rfl) ?_
  refine va_get (D := G) (ci := 3) (v := .ref (q 5)) (C := RX3) (T := TX3) (N := 16) hx hb hts hinX3 hown hK hP 0 rfl rfl 4 (by decide) lk9 (fun _ h9 => h9) rfl dX3_isSilenced_7 ?_
  refine n_iconst hx hb 1 dX3_isSilenced_10 (by decide) ?_
  refine n_iald hx hb hK hP 1 0 rfl rfl 1 (by decide) (by decide) dX3_isSilenced_11 ?_
  refine lv_icmp_lt (tgt := 19) hx hb dX3_isSilenced_12 (by decide) (fun c_1 => ?_) (fun c_2 => ?_)
  · skip
    refine n_iconst hx hb 0 dX3_isSilenced_19 (by decide) ?_
    subst hQ
    exact e_roz hx hb hr hlocks (by first | rfl | exact nar_b _) (by simp [pSil, bI, c_1]) dX3_isSilenced_20
  · skip
    refine n_iconst hx hb 1 dX3_isSilenced_15 (by decide) ?_
    refine lv_goto (tgt := 20) hx hb dX3_isSilenced_16 (by decide) ?_
    subst hQ
    exact e_roz hx hb hr hlocks (by first | rfl | exact nar_b _) (by simp [pSil, bI, c_2]) dX3_isSilenced_20
set_option maxHeartbeats 4000000 in
set_option maxRecDepth 100000 in
theorem c_X3_reasonAgainst (l : Launch) (G : va_G) (T : Nat → ClassId) (A : Nat → Prop) (q : Nat → Nat) (S : Nat → Nat → Int32) (r : Nat) (mm : Nat) (hr6 : r < 6) (hm20 : mm < 20) : RO l yX3_reasonAgainst wsX3_reasonAgainst 1 G T A (oX3 T q S) [.ref (q 0), .int (nI r), .int (nI mm)] (pWhy S r mm) := by
  refine Met.ofW (cc := cX3_reasonAgainst) (maxL := 3) (ret := (some .int)) (by decide) rfl ?_
  intro p e s m args below meth c s₁ B hml hv
  obtain ⟨ha, hP, hK, hE⟩ := hv
  have hx := B.exec
  have hb := B.bytes
  have hr := B.returns
  have hlocks := B.notSynchronized
  have hts := atoms_spec (ws := wsX3_reasonAgainst) B.pre
  have hown : s.vm.findClass RX3 = some m.cls := findClass_of_methodNamed B.named
  have cx : CallFix p m c cX3_reasonAgainst 3 s args wsX3_reasonAgainst RX3 := ⟨hx, hb, hml, hown, hts⟩
  refine w_entry ha (Nat.le_of_ble_eq_true rfl) (fun ls hl => ?_)
  refine w_q (fun Q0 hQ => ?_)
  have lk15 := hts (.fieldLink RX3 15 "WhistleTunes$School" "tuneLengths" "[I") (by decide +kernel)
  have hinX3 : ∀ w ∈ wsX30, w ∈ wsX3_reasonAgainst := by decide +kernel
  have hl : lv_has ls 3 [(0, .ref (q 0)), (1, .int (nI r)), (2, .int (nI mm))] := hl
  have hP : va_P G vwCl [(q 0, .inr (3, [.int (S 0 0), .int (S 0 1), .int (S 0 2), .int (S 0 3), .ref (q 5), .ref (q 6), .ref (q 7), .ref (q 8), .ref (q 9), .ref (q 10), .ref (q 11), .ref (q 12), .ref (q 13), .ref (q 14), .ref (q 15), .ref (q 16)])), (q 5, .inl (T 0, 2, .inl (S 5))), (q 6, .inl (T 0, 20, .inl (S 6))), (q 7, .inl (T 0, 160, .inl (S 7))), (q 8, .inl (T 0, 20, .inl (S 8))), (q 9, .inl (T 0, 20, .inl (S 9))), (q 10, .inl (T 0, 20, .inl (S 10))), (q 11, .inl (T 0, 6, .inl (S 11))), (q 12, .inl (T 0, 6, .inl (S 12))), (q 13, .inl (T 0, 6, .inl (S 13))), (q 14, .inl (T 0, 6, .inl (S 14))), (q 15, .inl (T 0, 6, .inl (S 15))), (q 16, .inl (T 0, 2, .inl (S 16)))] s.heap := hP
  refine lv_aload_n hx hb dX3_reasonAgainst_0 rfl (lv_at hl 0 rfl) ?_
  refine lv_iload_n hx hb dX3_reasonAgainst_1 rfl (lv_at hl 1 rfl) ?_
  refine k_roV (As := [.int (nI r)]) (rest := []) (wc := oX3 T q S) (d := 0) (v := bI (pSil S r)) cx (c_X3_isSilenced l G T A q S r (by omega)) (cwV 1 hts gX3_reasonAgainst_X3_isSilenced rfl rfl rfl (by decide +kernel) ⟨Nat.le_of_ble_eq_true rfl, Nat.le_of_ble_eq_true rfl⟩) hP hK hE (va_recv hK hP (ci := 3) (q0 := 0) rfl rfl) rfl hl.1 rfl (Nat.le_of_ble_eq_true rfl) dX3_reasonAgainst_2 ⟨Nat.le_of_ble_eq_true rfl, Nat.le_of_ble_eq_true rfl⟩ ?_
  refine b_if_eq (b := pSil S r) (tgt := 10) hx hb dX3_reasonAgainst_5 (by decide) (fun c_1 => ?_) (fun c_2 => ?_)
  · skip
    refine lv_aload_n hx hb dX3_reasonAgainst_10 rfl (lv_at hl 0 rfl) ?_
    refine va_get (D := G) (ci := 3) (v := .ref (q 6)) (C := RX3) (T := TX3) (N := 16) hx hb hts hinX3 hown hK hP 0 rfl rfl 5 (by decide) lk15 (fun _ h9 => h9) rfl dX3_reasonAgainst_11 ?_
    refine lv_iload_n hx hb dX3_reasonAgainst_14 rfl (lv_at hl 2 rfl) ?_
    refine n_iald hx hb hK hP 2 0 rfl rfl mm (by omega) (by decide) dX3_reasonAgainst_15 ?_
    refine lv_if_ne (tgt := 23) hx hb dX3_reasonAgainst_16 (by decide) (fun c_3 => ?_) (fun c_4 => ?_)
    · skip
      refine n_iconst hx hb 0 dX3_reasonAgainst_23 (by decide) ?_
      subst hQ
      exact e_ro hx hb hr hlocks (by simp [pWhy, c_1, c_3]) dX3_reasonAgainst_24
    · skip
      refine n_iconst hx hb 2 dX3_reasonAgainst_19 (by decide) ?_
      refine lv_goto (tgt := 24) hx hb dX3_reasonAgainst_20 (by decide) ?_
      subst hQ
      exact e_ro hx hb hr hlocks (by simp [pWhy, c_1, c_4]) dX3_reasonAgainst_24
  · skip
    refine n_iconst hx hb 1 dX3_reasonAgainst_8 (by decide) ?_
    subst hQ
    exact e_ro hx hb hr hlocks (by simp [pWhy, c_2]) dX3_reasonAgainst_9
set_option maxHeartbeats 4000000 in
set_option maxRecDepth 100000 in
theorem c_X3_floorsAround (l : Launch) (G : va_G) (T : Nat → ClassId) (A : Nat → Prop) (q : Nat → Nat) (S : Nat → Nat → Int32) (f : Nat) (hf3 : f < 3) : RO l yX3_floorsAround wsX3_floorsAround 0 G T A (oX3 T q S) [.ref (q 0), .int (nI f)] (pFA S f 3) := by
  refine Met.ofW (cc := cX3_floorsAround) (maxL := 4) (ret := (some .int)) (by decide) rfl ?_
  intro p e s m args below meth c s₁ B hml hv
  obtain ⟨ha, hP, hK, hE⟩ := hv
  have hx := B.exec
  have hb := B.bytes
  have hr := B.returns
  have hlocks := B.notSynchronized
  have hts := atoms_spec (ws := wsX3_floorsAround) B.pre
  have hown : s.vm.findClass RX3 = some m.cls := findClass_of_methodNamed B.named
  have cx : CallFix p m c cX3_floorsAround 4 s args wsX3_floorsAround RX3 := ⟨hx, hb, hml, hown, hts⟩
  refine w_entry ha (Nat.le_of_ble_eq_true rfl) (fun ls hl => ?_)
  refine w_q (fun Q0 hQ => ?_)
  have lk9 := hts (.fieldLink RX3 9 "WhistleTunes$School" "settings" "[I") (by decide +kernel)
  have hinX3 : ∀ w ∈ wsX30, w ∈ wsX3_floorsAround := by decide +kernel
  have hl : lv_has ls 4 [(0, .ref (q 0)), (1, .int (nI f))] := hl
  have hP : va_P G vwCl [(q 0, .inr (3, [.int (S 0 0), .int (S 0 1), .int (S 0 2), .int (S 0 3), .ref (q 5), .ref (q 6), .ref (q 7), .ref (q 8), .ref (q 9), .ref (q 10), .ref (q 11), .ref (q 12), .ref (q 13), .ref (q 14), .ref (q 15), .ref (q 16)])), (q 5, .inl (T 0, 2, .inl (S 5))), (q 6, .inl (T 0, 20, .inl (S 6))), (q 7, .inl (T 0, 160, .inl (S 7))), (q 8, .inl (T 0, 20, .inl (S 8))), (q 9, .inl (T 0, 20, .inl (S 9))), (q 10, .inl (T 0, 20, .inl (S 10))), (q 11, .inl (T 0, 6, .inl (S 11))), (q 12, .inl (T 0, 6, .inl (S 12))), (q 13, .inl (T 0, 6, .inl (S 13))), (q 14, .inl (T 0, 6, .inl (S 14))), (q 15, .inl (T 0, 6, .inl (S 15))), (q 16, .inl (T 0, 2, .inl (S 16)))] s.heap := hP
  refine n_iconst hx hb 0 dX3_floorsAround_0 (by decide) ?_
  refine lv_istore_n (lv' := [(2, .int (nI 0)), (0, .ref (q 0)), (1, .int (nI f))]) hx hb dX3_floorsAround_1 rfl hl (by decide) rfl (fun ls hl => ?_)
  refine n_iconst hx hb 0 dX3_floorsAround_2 (by decide) ?_
  refine lv_istore_n (lv' := [(3, .int (nI 0)), (2, .int (nI 0)), (0, .ref (q 0)), (1, .int (nI f))]) hx hb dX3_floorsAround_3 rfl hl (by decide) rfl (fun ls hl => ?_)
  have L4 : ∀ (n9 k : Nat) (hk1 : k ≤ 3) (hk2 : 3 - k < n9) (x3 : Int32) (x2 : Int32) (hx3 : x3 = nI k) (hx2 : x2 = pFA S f k) (ls : Array Slot) (hl : lv_has ls 4 [(3, .int x3), (2, .int x2), (0, .ref (q 0)), (1, .int (nI f))]), W p l e (headSpec wsX3_floorsAround (rmD 0 0 0)).room s m args below meth c s.heap [] 0 0 Q0 (F0 m 4 ls []) := by
    intro n9
    induction n9 with
    | zero => intros; omega
    | succ n9 ih4 =>
      intro k hk1 hk2 x3 x2 hx3 hx2 ls hl
      subst hx3 hx2
      refine lv_iload_n hx hb dX3_floorsAround_4 rfl (lv_at hl 0 rfl) ?_
      refine n_iconst hx hb 3 dX3_floorsAround_5 (by decide) ?_
      refine n_icmp_ge (a := k) (b := 3) (tgt := 45) hx hb (by omega) (by decide) dX3_floorsAround_6 (by decide) (fun c_1 => ?_) (fun c_2 => ?_)
      · skip
        refine lv_iload_n hx hb dX3_floorsAround_45 rfl (lv_at hl 1 rfl) ?_
        subst hQ
        exact e_ro hx hb hr hlocks (by obtain rfl : k = 3 := (by omega); rfl) dX3_floorsAround_46
      · skip
        refine lv_iload_n hx hb dX3_floorsAround_9 rfl (lv_at hl 0 rfl) ?_
        refine lv_iload_n hx hb dX3_floorsAround_10 rfl (lv_at hl 3 rfl) ?_
        refine lv_isub hx hb dX3_floorsAround_11 ?_
        refine lv_aload_n hx hb dX3_floorsAround_12 rfl (lv_at hl 2 rfl) ?_
        refine va_get (D := G) (ci := 3) (v := .ref (q 5)) (C := RX3) (T := TX3) (N := 16) hx hb hts hinX3 hown hK hP 0 rfl rfl 4 (by decide) lk9 (fun _ h9 => h9) rfl dX3_floorsAround_13 ?_
        refine n_iconst hx hb 0 dX3_floorsAround_16 (by decide) ?_
        refine n_iald hx hb hK hP 1 0 rfl rfl 0 (by decide) (by decide) dX3_floorsAround_17 ?_
        refine lv_icmp_gt (tgt := 39) hx hb dX3_floorsAround_18 (by decide) (fun c_3 => ?_) (fun c_4 => ?_)
        · skip
          refine lv_iinc (v := nI (k + 1)) (lv' := [(3, .int (nI (k + 1))), (2, .int (pFA S f k)), (0, .ref (q 0)), (1, .int (nI f))]) hx hb dX3_floorsAround_39 hl (k := 0) rfl (n_inc k 1 rfl) (by decide) rfl (fun ls hl => ?_)
          refine lv_goto (tgt := 4) hx hb dX3_floorsAround_42 (by decide) ?_
          have e_5 : (pFA S f k) = pFA S f (k + 1) := (by simp [pFA, pNr, c_2, c_3])
          exact ih4 (k + 1) (by omega) (by omega) _ _ rfl e_5 _ (lv_sub hl [0, 1, 2, 3] rfl)
        · skip
          refine lv_iload_n hx hb dX3_floorsAround_21 rfl (lv_at hl 3 rfl) ?_
          refine lv_iload_n hx hb dX3_floorsAround_22 rfl (lv_at hl 0 rfl) ?_
          refine lv_isub hx hb dX3_floorsAround_23 ?_
          refine lv_aload_n hx hb dX3_floorsAround_24 rfl (lv_at hl 2 rfl) ?_
          refine va_get (D := G) (ci := 3) (v := .ref (q 5)) (C := RX3) (T := TX3) (N := 16) hx hb hts hinX3 hown hK hP 0 rfl rfl 4 (by decide) lk9 (fun _ h9 => h9) rfl dX3_floorsAround_25 ?_
          refine n_iconst hx hb 0 dX3_floorsAround_28 (by decide) ?_
          refine n_iald hx hb hK hP 1 0 rfl rfl 0 (by decide) (by decide) dX3_floorsAround_29 ?_
          refine lv_icmp_gt (tgt := 39) hx hb dX3_floorsAround_30 (by decide) (fun c_6 => ?_) (fun c_7 => ?_)
          · skip
            refine lv_iinc (v := nI (k + 1)) (lv' := [(3, .int (nI (k + 1))), (2, .int (pFA S f k)), (0, .ref (q 0)), (1, .int (nI f))]) hx hb dX3_floorsAround_39 hl (k := 0) rfl (n_inc k 1 rfl) (by decide) rfl (fun ls hl => ?_)
            refine lv_goto (tgt := 4) hx hb dX3_floorsAround_42 (by decide) ?_
            have e_8 : (pFA S f k) = pFA S f (k + 1) := (by simp [pFA, pNr, c_2, c_4, c_6])
            exact ih4 (k + 1) (by omega) (by omega) _ _ rfl e_8 _ (lv_sub hl [0, 1, 2, 3] rfl)
          · skip
            refine lv_iload_n hx hb dX3_floorsAround_33 rfl (lv_at hl 1 rfl) ?_
            refine n_iconst hx hb 1 dX3_floorsAround_34 (by decide) ?_
            refine lv_iload_n hx hb dX3_floorsAround_35 rfl (lv_at hl 0 rfl) ?_
            refine x_ishl hx hb dX3_floorsAround_36 ?_
            refine lv_ior hx hb dX3_floorsAround_37 ?_
            refine lv_istore_n (lv' := [(2, .int ((pFA S f k) ||| (iShl (nI 1) (nI k)))), (3, .int (nI k)), (0, .ref (q 0)), (1, .int (nI f))]) hx hb dX3_floorsAround_38 rfl hl (by decide) rfl (fun ls hl => ?_)
            refine lv_iinc (v := nI (k + 1)) (lv' := [(3, .int (nI (k + 1))), (2, .int ((pFA S f k) ||| (iShl (nI 1) (nI k)))), (0, .ref (q 0)), (1, .int (nI f))]) hx hb dX3_floorsAround_39 hl (k := 1) rfl (n_inc k 1 rfl) (by decide) rfl (fun ls hl => ?_)
            refine lv_goto (tgt := 4) hx hb dX3_floorsAround_42 (by decide) ?_
            have e_9 : ((pFA S f k) ||| (iShl (nI 1) (nI k))) = pFA S f (k + 1) := (by simp [pFA, pNr, c_2, c_4, c_7])
            exact ih4 (k + 1) (by omega) (by omega) _ _ rfl e_9 _ (lv_sub hl [0, 1, 2, 3] rfl)
  exact L4 (3 + 1) 0 (by omega) (by omega) _ _ rfl rfl _ (lv_sub hl [0, 1, 2, 3] rfl)
set_option maxHeartbeats 4000000 in
set_option maxRecDepth 100000 in
theorem c_X3_floorsHearing (l : Launch) (G : va_G) (T : Nat → ClassId) (A : Nat → Prop) (q : Nat → Nat) (S : Nat → Nat → Int32) (r : Nat) (hr6 : r < 6) : RO l yX3_floorsHearing wsX3_floorsHearing 1 G T A (oX3 T q S) [.ref (q 0), .int (nI r)] (pFHo S r 3) := by
  refine Met.ofW (cc := cX3_floorsHearing) (maxL := 5) (ret := (some .int)) (by decide) rfl ?_
  intro p e s m args below meth c s₁ B hml hv
  obtain ⟨ha, hP, hK, hE⟩ := hv
  have hx := B.exec
  have hb := B.bytes
  have hr := B.returns
  have hlocks := B.notSynchronized
  have hts := atoms_spec (ws := wsX3_floorsHearing) B.pre
  have hown : s.vm.findClass RX3 = some m.cls := findClass_of_methodNamed B.named
  have cx : CallFix p m c cX3_floorsHearing 5 s args wsX3_floorsHearing RX3 := ⟨hx, hb, hml, hown, hts⟩
  refine w_entry ha (Nat.le_of_ble_eq_true rfl) (fun ls hl => ?_)
  refine w_q (fun Q0 hQ => ?_)
  have lk55 := hts (.fieldLink RX3 55 "WhistleTunes$School" "awakeFloors" "I") (by decide +kernel)
  have hinX3 : ∀ w ∈ wsX30, w ∈ wsX3_floorsHearing := by decide +kernel
  have hl : lv_has ls 5 [(0, .ref (q 0)), (1, .int (nI r))] := hl
  have hP : va_P G vwCl [(q 0, .inr (3, [.int (S 0 0), .int (S 0 1), .int (S 0 2), .int (S 0 3), .ref (q 5), .ref (q 6), .ref (q 7), .ref (q 8), .ref (q 9), .ref (q 10), .ref (q 11), .ref (q 12), .ref (q 13), .ref (q 14), .ref (q 15), .ref (q 16)])), (q 5, .inl (T 0, 2, .inl (S 5))), (q 6, .inl (T 0, 20, .inl (S 6))), (q 7, .inl (T 0, 160, .inl (S 7))), (q 8, .inl (T 0, 20, .inl (S 8))), (q 9, .inl (T 0, 20, .inl (S 9))), (q 10, .inl (T 0, 20, .inl (S 10))), (q 11, .inl (T 0, 6, .inl (S 11))), (q 12, .inl (T 0, 6, .inl (S 12))), (q 13, .inl (T 0, 6, .inl (S 13))), (q 14, .inl (T 0, 6, .inl (S 14))), (q 15, .inl (T 0, 6, .inl (S 15))), (q 16, .inl (T 0, 2, .inl (S 16)))] s.heap := hP
  refine lv_aload_n hx hb dX3_floorsHearing_0 rfl (lv_at hl 0 rfl) ?_
  refine lv_iload_n hx hb dX3_floorsHearing_1 rfl (lv_at hl 1 rfl) ?_
  refine n_iconst hx hb 2 dX3_floorsHearing_2 (by decide) ?_
  refine n_idiv (a := r) (b := 2) hx hb (by omega) (by decide) (by decide) dX3_floorsHearing_3 ?_
  refine k_roV (As := [.int (nI (r / 2))]) (rest := []) (wc := oX3 T q S) (d := 0) (v := pFA S (r / 2) 3) cx (c_X3_floorsAround l G T A q S (r / 2) (by omega)) (cwV 1 hts gX3_floorsHearing_X3_floorsAround rfl rfl rfl (by decide +kernel) ⟨Nat.le_of_ble_eq_true rfl, Nat.le_of_ble_eq_true rfl⟩) hP hK hE (va_recv hK hP (ci := 3) (q0 := 0) rfl rfl) rfl hl.1 rfl (Nat.le_of_ble_eq_true rfl) dX3_floorsHearing_4 ⟨Nat.le_of_ble_eq_true rfl, Nat.le_of_ble_eq_true rfl⟩ ?_
  refine lv_istore_n (lv' := [(2, .int (pFA S (r / 2) 3)), (0, .ref (q 0)), (1, .int (nI r))]) hx hb dX3_floorsHearing_7 rfl hl (by decide) rfl (fun ls hl => ?_)
  refine n_iconst hx hb 0 dX3_floorsHearing_8 (by decide) ?_
  refine lv_istore_n (lv' := [(3, .int (nI 0)), (2, .int (pFA S (r / 2) 3)), (0, .ref (q 0)), (1, .int (nI r))]) hx hb dX3_floorsHearing_9 rfl hl (by decide) rfl (fun ls hl => ?_)
  have L10 : ∀ (n9 k : Nat) (hk1 : k ≤ 3) (hk2 : 3 - k < n9) (x3 : Int32) (x2 : Int32) (hx3 : x3 = nI k) (hx2 : x2 = pFHo S r k) (ls : Array Slot) (hl : lv_has ls 5 [(3, .int x3), (2, .int x2), (0, .ref (q 0)), (1, .int (nI r))]), W p l e (headSpec wsX3_floorsHearing (rmD 1 0 0)).room s m args below meth c s.heap [] 0 0 Q0 (F0 m 10 ls []) := by
    intro n9
    induction n9 with
    | zero => intros; omega
    | succ n9 ih10 =>
      intro k hk1 hk2 x3 x2 hx3 hx2 ls hl
      subst hx3 hx2
      refine lv_iload_n hx hb dX3_floorsHearing_10 rfl (lv_at hl 0 rfl) ?_
      refine n_iconst hx hb 3 dX3_floorsHearing_11 (by decide) ?_
      refine n_icmp_ge (a := k) (b := 3) (tgt := 59) hx hb (by omega) (by decide) dX3_floorsHearing_12 (by decide) (fun c_1 => ?_) (fun c_2 => ?_)
      · skip
        refine lv_iload_n hx hb dX3_floorsHearing_59 rfl (lv_at hl 1 rfl) ?_
        subst hQ
        exact e_ro hx hb hr hlocks (by obtain rfl : k = 3 := (by omega); rfl) dX3_floorsHearing_60
      · skip
        refine n_iconst hx hb 0 dX3_floorsHearing_15 (by decide) ?_
        refine lv_istore (lv' := [(4, .int (nI 0)), (3, .int (nI k)), (2, .int (pFHo S r k)), (0, .ref (q 0)), (1, .int (nI r))]) hx hb dX3_floorsHearing_16 hl (by decide) rfl (fun ls hl => ?_)
        have L18_i_3 : ∀ (n9 j : Nat) (hk1 : j ≤ 3) (hk2 : 3 - j < n9) (x4 : Int32) (x2 : Int32) (hx4 : x4 = nI j) (hx2 : x2 = pFHi S (pFHo S r k) j) (ls : Array Slot) (hl : lv_has ls 5 [(4, .int x4), (3, .int (nI k)), (2, .int x2), (0, .ref (q 0)), (1, .int (nI r))]), W p l e (headSpec wsX3_floorsHearing (rmD 1 0 0)).room s m args below meth c s.heap [] 0 0 Q0 (F0 m 18 ls []) := by
          intro n9
          induction n9 with
          | zero => intros; omega
          | succ n9 ih18 =>
            intro j hk1 hk2 x4 x2 hx4 hx2 ls hl
            subst hx4 hx2
            refine lv_iload hx hb dX3_floorsHearing_18 (lv_at hl 0 rfl) ?_
            refine n_iconst hx hb 3 dX3_floorsHearing_20 (by decide) ?_
            refine n_icmp_ge (a := j) (b := 3) (tgt := 53) hx hb (by omega) (by decide) dX3_floorsHearing_21 (by decide) (fun c_4 => ?_) (fun c_5 => ?_)
            · skip
              refine lv_iinc (v := nI (k + 1)) (lv' := [(3, .int (nI (k + 1))), (4, .int (nI j)), (2, .int (pFHi S (pFHo S r k) j)), (0, .ref (q 0)), (1, .int (nI r))]) hx hb dX3_floorsHearing_53 hl (k := 1) rfl (n_inc k 1 rfl) (by decide) rfl (fun ls hl => ?_)
              refine lv_goto (tgt := 10) hx hb dX3_floorsHearing_56 (by decide) ?_
              have e_6 : (pFHi S (pFHo S r k) j) = pFHo S r (k + 1) := (by obtain rfl : j = 3 := (by omega); rfl)
              exact ih10 (k + 1) (by omega) (by omega) _ _ rfl e_6 _ (lv_sub hl [0, 2, 3, 4] rfl)
            · skip
              refine lv_iload_n hx hb dX3_floorsHearing_24 rfl (lv_at hl 2 rfl) ?_
              refine lv_aload_n hx hb dX3_floorsHearing_25 rfl (lv_at hl 3 rfl) ?_
              refine va_get (D := G) (ci := 3) (v := .int (S 0 2)) (C := RX3) (T := TX3) (N := 16) hx hb hts hinX3 hown hK hP 0 rfl rfl 2 (by decide) lk55 (fun _ h9 => h9) rfl dX3_floorsHearing_26 ?_
              refine lv_iand hx hb dX3_floorsHearing_29 ?_
              refine lv_iload hx hb dX3_floorsHearing_30 (lv_at hl 0 rfl) ?_
              refine k_roN (As := [.int ((pFHi S (pFHo S r k) j) &&& (S 0 2)), .int (nI j)]) (rest := []) (wc := []) (d := 0) (v := bI (pHB ((pFHi S (pFHo S r k) j) &&& (S 0 2)) (nI j))) cx (c_X7_hasBit l G T A ((pFHi S (pFHo S r k) j) &&& (S 0 2)) (nI j) ) ⟨va_cnB 2 hts gX3_floorsHearing_X7_hasBit_n87 rfl rfl rfl (hE.1 (RX3, 87, yX7_hasBit) (by decide +kernel)) (hts (.initialized RX7) (by decide +kernel)) (by decide +kernel) ⟨Nat.le_of_ble_eq_true rfl, Nat.le_of_ble_eq_true rfl⟩, hts (.static yX7_hasBit) (by decide +kernel), trivial⟩ (hP.sub (ws' := []) [] rfl) hK hE rfl hl.1 rfl (Nat.le_of_ble_eq_true rfl) dX3_floorsHearing_32 ⟨Nat.le_of_ble_eq_true rfl, Nat.le_of_ble_eq_true rfl⟩ ?_
              refine b_if_eq (b := pHB ((pFHi S (pFHo S r k) j) &&& (S 0 2)) (nI j)) (tgt := 47) hx hb dX3_floorsHearing_35 (by decide) (fun c_7 => ?_) (fun c_8 => ?_)
              · skip
                refine lv_iinc (v := nI (j + 1)) (lv' := [(4, .int (nI (j + 1))), (3, .int (nI k)), (2, .int (pFHi S (pFHo S r k) j)), (0, .ref (q 0)), (1, .int (nI r))]) hx hb dX3_floorsHearing_47 hl (k := 0) rfl (n_inc j 1 rfl) (by decide) rfl (fun ls hl => ?_)
                refine lv_goto (tgt := 18) hx hb dX3_floorsHearing_50 (by decide) ?_
                have e_9 : (pFHi S (pFHo S r k) j) = pFHi S (pFHo S r k) (j + 1) := (by simp [pFHi, c_2, c_5, c_7])
                exact ih18 (j + 1) (by omega) (by omega) _ _ rfl e_9 _ (lv_sub hl [0, 1, 2, 3, 4] rfl)
              · skip
                refine lv_iload_n hx hb dX3_floorsHearing_38 rfl (lv_at hl 2 rfl) ?_
                refine lv_aload_n hx hb dX3_floorsHearing_39 rfl (lv_at hl 3 rfl) ?_
                refine lv_iload hx hb dX3_floorsHearing_40 (lv_at hl 0 rfl) ?_
                refine k_roV (As := [.int (nI j)]) (rest := [.int (pFHi S (pFHo S r k) j)]) (wc := oX3 T q S) (d := 0) (v := pFA S j 3) cx (c_X3_floorsAround l G T A q S j (by omega)) (cwV 1 hts gX3_floorsHearing_X3_floorsAround rfl rfl rfl (by decide +kernel) ⟨Nat.le_of_ble_eq_true rfl, Nat.le_of_ble_eq_true rfl⟩) hP hK hE (va_recv hK hP (ci := 3) (q0 := 0) rfl rfl) rfl hl.1 rfl (Nat.le_of_ble_eq_true rfl) dX3_floorsHearing_42 ⟨Nat.le_of_ble_eq_true rfl, Nat.le_of_ble_eq_true rfl⟩ ?_
                refine lv_ior hx hb dX3_floorsHearing_45 ?_
                refine lv_istore_n (lv' := [(2, .int ((pFHi S (pFHo S r k) j) ||| (pFA S j 3))), (4, .int (nI j)), (3, .int (nI k)), (0, .ref (q 0)), (1, .int (nI r))]) hx hb dX3_floorsHearing_46 rfl hl (by decide) rfl (fun ls hl => ?_)
                refine lv_iinc (v := nI (j + 1)) (lv' := [(4, .int (nI (j + 1))), (2, .int ((pFHi S (pFHo S r k) j) ||| (pFA S j 3))), (3, .int (nI k)), (0, .ref (q 0)), (1, .int (nI r))]) hx hb dX3_floorsHearing_47 hl (k := 1) rfl (n_inc j 1 rfl) (by decide) rfl (fun ls hl => ?_)
                refine lv_goto (tgt := 18) hx hb dX3_floorsHearing_50 (by decide) ?_
                have e_10 : ((pFHi S (pFHo S r k) j) ||| (pFA S j 3)) = pFHi S (pFHo S r k) (j + 1) := (by simp [pFHi, c_2, c_5, c_8])
                exact ih18 (j + 1) (by omega) (by omega) _ _ rfl e_10 _ (lv_sub hl [0, 2, 1, 3, 4] rfl)
        exact L18_i_3 (3 + 1) 0 (by omega) (by omega) _ _ rfl rfl _ (lv_sub hl [0, 1, 2, 3, 4] rfl)
  exact L10 (3 + 1) 0 (by omega) (by omega) _ _ rfl rfl _ (lv_sub hl [0, 1, 2, 3] rfl)
set_option maxHeartbeats 4000000 in
set_option maxRecDepth 100000 in
theorem c_X3_roomsOn (l : Launch) (G : va_G) (T : Nat → ClassId) (A : Nat → Prop) (q : Nat → Nat) (S : Nat → Nat → Int32) (x : Int32) : RO l yX3_roomsOn wsX3_roomsOn 1 G T A (oX3 T q S) [.ref (q 0), .int x] (pRO x 6) := by
  refine Met.ofW (cc := cX3_roomsOn) (maxL := 4) (ret := (some .int)) (by decide) rfl ?_
  intro p e s m args below meth c s₁ B hml hv
  obtain ⟨ha, hP, hK, hE⟩ := hv
  have hx := B.exec
  have hb := B.bytes
  have hr := B.returns
  have hlocks := B.notSynchronized
  have hts := atoms_spec (ws := wsX3_roomsOn) B.pre
  have hown : s.vm.findClass RX3 = some m.cls := findClass_of_methodNamed B.named
  have cx : CallFix p m c cX3_roomsOn 4 s args wsX3_roomsOn RX3 := ⟨hx, hb, hml, hown, hts⟩
  refine w_entry ha (Nat.le_of_ble_eq_true rfl) (fun ls hl => ?_)
  refine w_q (fun Q0 hQ => ?_)
  have hl : lv_has ls 4 [(0, .ref (q 0)), (1, .int x)] := hl
  have hP : va_P G vwCl [(q 0, .inr (3, [.int (S 0 0), .int (S 0 1), .int (S 0 2), .int (S 0 3), .ref (q 5), .ref (q 6), .ref (q 7), .ref (q 8), .ref (q 9), .ref (q 10), .ref (q 11), .ref (q 12), .ref (q 13), .ref (q 14), .ref (q 15), .ref (q 16)])), (q 5, .inl (T 0, 2, .inl (S 5))), (q 6, .inl (T 0, 20, .inl (S 6))), (q 7, .inl (T 0, 160, .inl (S 7))), (q 8, .inl (T 0, 20, .inl (S 8))), (q 9, .inl (T 0, 20, .inl (S 9))), (q 10, .inl (T 0, 20, .inl (S 10))), (q 11, .inl (T 0, 6, .inl (S 11))), (q 12, .inl (T 0, 6, .inl (S 12))), (q 13, .inl (T 0, 6, .inl (S 13))), (q 14, .inl (T 0, 6, .inl (S 14))), (q 15, .inl (T 0, 6, .inl (S 15))), (q 16, .inl (T 0, 2, .inl (S 16)))] s.heap := hP
  refine n_iconst hx hb 0 dX3_roomsOn_0 (by decide) ?_
  refine lv_istore_n (lv' := [(2, .int (nI 0)), (0, .ref (q 0)), (1, .int x)]) hx hb dX3_roomsOn_1 rfl hl (by decide) rfl (fun ls hl => ?_)
  refine n_iconst hx hb 0 dX3_roomsOn_2 (by decide) ?_
  refine lv_istore_n (lv' := [(3, .int (nI 0)), (2, .int (nI 0)), (0, .ref (q 0)), (1, .int x)]) hx hb dX3_roomsOn_3 rfl hl (by decide) rfl (fun ls hl => ?_)
  have L4 : ∀ (n9 k : Nat) (hk1 : k ≤ 6) (hk2 : 6 - k < n9) (x3 : Int32) (x2 : Int32) (hx3 : x3 = nI k) (hx2 : x2 = pRO x k) (ls : Array Slot) (hl : lv_has ls 4 [(3, .int x3), (2, .int x2), (0, .ref (q 0)), (1, .int x)]), W p l e (headSpec wsX3_roomsOn (rmD 1 0 0)).room s m args below meth c s.heap [] 0 0 Q0 (F0 m 4 ls []) := by
    intro n9
    induction n9 with
    | zero => intros; omega
    | succ n9 ih4 =>
      intro k hk1 hk2 x3 x2 hx3 hx2 ls hl
      subst hx3 hx2
      refine lv_iload_n hx hb dX3_roomsOn_4 rfl (lv_at hl 0 rfl) ?_
      refine lv_bipush (v := nI 6) hx hb dX3_roomsOn_5 (by decide) ?_
      refine n_icmp_ge (a := k) (b := 6) (tgt := 32) hx hb (by omega) (by decide) dX3_roomsOn_7 (by decide) (fun c_1 => ?_) (fun c_2 => ?_)
      · skip
        refine lv_iload_n hx hb dX3_roomsOn_32 rfl (lv_at hl 1 rfl) ?_
        subst hQ
        exact e_ro hx hb hr hlocks (by obtain rfl : k = 6 := (by omega); rfl) dX3_roomsOn_33
      · skip
        refine lv_iload_n hx hb dX3_roomsOn_10 rfl (lv_at hl 3 rfl) ?_
        refine lv_iload_n hx hb dX3_roomsOn_11 rfl (lv_at hl 0 rfl) ?_
        refine n_iconst hx hb 2 dX3_roomsOn_12 (by decide) ?_
        refine n_idiv (a := k) (b := 2) hx hb (by omega) (by decide) (by decide) dX3_roomsOn_13 ?_
        refine k_roN (As := [.int x, .int (nI (k / 2))]) (rest := []) (wc := []) (d := 0) (v := bI (pHB x (nI (k / 2)))) cx (c_X7_hasBit l G T A x (nI (k / 2)) ) ⟨va_cnB 2 hts gX3_roomsOn_X7_hasBit_n87 rfl rfl rfl (hE.1 (RX3, 87, yX7_hasBit) (by decide +kernel)) (hts (.initialized RX7) (by decide +kernel)) (by decide +kernel) ⟨Nat.le_of_ble_eq_true rfl, Nat.le_of_ble_eq_true rfl⟩, hts (.static yX7_hasBit) (by decide +kernel), trivial⟩ (hP.sub (ws' := []) [] rfl) hK hE rfl hl.1 rfl (Nat.le_of_ble_eq_true rfl) dX3_roomsOn_14 ⟨Nat.le_of_ble_eq_true rfl, Nat.le_of_ble_eq_true rfl⟩ ?_
        refine b_if_eq (b := pHB x (nI (k / 2))) (tgt := 26) hx hb dX3_roomsOn_17 (by decide) (fun c_3 => ?_) (fun c_4 => ?_)
        · skip
          refine lv_iinc (v := nI (k + 1)) (lv' := [(3, .int (nI (k + 1))), (2, .int (pRO x k)), (0, .ref (q 0)), (1, .int x)]) hx hb dX3_roomsOn_26 hl (k := 0) rfl (n_inc k 1 rfl) (by decide) rfl (fun ls hl => ?_)
          refine lv_goto (tgt := 4) hx hb dX3_roomsOn_29 (by decide) ?_
          have e_5 : (pRO x k) = pRO x (k + 1) := (by simp [pRO, c_2, c_3])
          exact ih4 (k + 1) (by omega) (by omega) _ _ rfl e_5 _ (lv_sub hl [0, 1, 2, 3] rfl)
        · skip
          refine lv_iload_n hx hb dX3_roomsOn_20 rfl (lv_at hl 1 rfl) ?_
          refine n_iconst hx hb 1 dX3_roomsOn_21 (by decide) ?_
          refine lv_iload_n hx hb dX3_roomsOn_22 rfl (lv_at hl 0 rfl) ?_
          refine x_ishl hx hb dX3_roomsOn_23 ?_
          refine lv_ior hx hb dX3_roomsOn_24 ?_
          refine lv_istore_n (lv' := [(2, .int ((pRO x k) ||| (iShl (nI 1) (nI k)))), (3, .int (nI k)), (0, .ref (q 0)), (1, .int x)]) hx hb dX3_roomsOn_25 rfl hl (by decide) rfl (fun ls hl => ?_)
          refine lv_iinc (v := nI (k + 1)) (lv' := [(3, .int (nI (k + 1))), (2, .int ((pRO x k) ||| (iShl (nI 1) (nI k)))), (0, .ref (q 0)), (1, .int x)]) hx hb dX3_roomsOn_26 hl (k := 1) rfl (n_inc k 1 rfl) (by decide) rfl (fun ls hl => ?_)
          refine lv_goto (tgt := 4) hx hb dX3_roomsOn_29 (by decide) ?_
          have e_6 : ((pRO x k) ||| (iShl (nI 1) (nI k))) = pRO x (k + 1) := (by simp [pRO, c_2, c_4])
          exact ih4 (k + 1) (by omega) (by omega) _ _ rfl e_6 _ (lv_sub hl [0, 1, 2, 3] rfl)
  exact L4 (6 + 1) 0 (by omega) (by omega) _ _ rfl rfl _ (lv_sub hl [0, 1, 2, 3] rfl)
set_option maxHeartbeats 4000000 in
set_option maxRecDepth 100000 in
theorem c_X3_mastersOn (l : Launch) (G : va_G) (T : Nat → ClassId) (A : Nat → Prop) (q : Nat → Nat) (S : Nat → Nat → Int32) (x : Int32) : RO l yX3_mastersOn wsX3_mastersOn 1 G T A (oX3 T q S) [.ref (q 0), .int x] (pMO S x 3) := by
  refine Met.ofW (cc := cX3_mastersOn) (maxL := 4) (ret := (some .int)) (by decide) rfl ?_
  intro p e s m args below meth c s₁ B hml hv
  obtain ⟨ha, hP, hK, hE⟩ := hv
  have hx := B.exec
  have hb := B.bytes
  have hr := B.returns
  have hlocks := B.notSynchronized
  have hts := atoms_spec (ws := wsX3_mastersOn) B.pre
  have hown : s.vm.findClass RX3 = some m.cls := findClass_of_methodNamed B.named
  have cx : CallFix p m c cX3_mastersOn 4 s args wsX3_mastersOn RX3 := ⟨hx, hb, hml, hown, hts⟩
  refine w_entry ha (Nat.le_of_ble_eq_true rfl) (fun ls hl => ?_)
  refine w_q (fun Q0 hQ => ?_)
  have lk48 := hts (.fieldLink RX3 48 "WhistleTunes$School" "night" "I") (by decide +kernel)
  have hinX3 : ∀ w ∈ wsX30, w ∈ wsX3_mastersOn := by decide +kernel
  have hl : lv_has ls 4 [(0, .ref (q 0)), (1, .int x)] := hl
  have hP : va_P G vwCl [(q 0, .inr (3, [.int (S 0 0), .int (S 0 1), .int (S 0 2), .int (S 0 3), .ref (q 5), .ref (q 6), .ref (q 7), .ref (q 8), .ref (q 9), .ref (q 10), .ref (q 11), .ref (q 12), .ref (q 13), .ref (q 14), .ref (q 15), .ref (q 16)])), (q 5, .inl (T 0, 2, .inl (S 5))), (q 6, .inl (T 0, 20, .inl (S 6))), (q 7, .inl (T 0, 160, .inl (S 7))), (q 8, .inl (T 0, 20, .inl (S 8))), (q 9, .inl (T 0, 20, .inl (S 9))), (q 10, .inl (T 0, 20, .inl (S 10))), (q 11, .inl (T 0, 6, .inl (S 11))), (q 12, .inl (T 0, 6, .inl (S 12))), (q 13, .inl (T 0, 6, .inl (S 13))), (q 14, .inl (T 0, 6, .inl (S 14))), (q 15, .inl (T 0, 6, .inl (S 15))), (q 16, .inl (T 0, 2, .inl (S 16)))] s.heap := hP
  refine n_iconst hx hb 0 dX3_mastersOn_0 (by decide) ?_
  refine lv_istore_n (lv' := [(2, .int (nI 0)), (0, .ref (q 0)), (1, .int x)]) hx hb dX3_mastersOn_1 rfl hl (by decide) rfl (fun ls hl => ?_)
  refine n_iconst hx hb 0 dX3_mastersOn_2 (by decide) ?_
  refine lv_istore_n (lv' := [(3, .int (nI 0)), (2, .int (nI 0)), (0, .ref (q 0)), (1, .int x)]) hx hb dX3_mastersOn_3 rfl hl (by decide) rfl (fun ls hl => ?_)
  have L4 : ∀ (n9 k : Nat) (hk1 : k ≤ 3) (hk2 : 3 - k < n9) (x3 : Int32) (x2 : Int32) (hx3 : x3 = nI k) (hx2 : x2 = pMO S x k) (ls : Array Slot) (hl : lv_has ls 4 [(3, .int x3), (2, .int x2), (0, .ref (q 0)), (1, .int x)]), W p l e (headSpec wsX3_mastersOn (rmD 1 0 0)).room s m args below meth c s.heap [] 0 0 Q0 (F0 m 4 ls []) := by
    intro n9
    induction n9 with
    | zero => intros; omega
    | succ n9 ih4 =>
      intro k hk1 hk2 x3 x2 hx3 hx2 ls hl
      subst hx3 hx2
      refine lv_iload_n hx hb dX3_mastersOn_4 rfl (lv_at hl 0 rfl) ?_
      refine n_iconst hx hb 3 dX3_mastersOn_5 (by decide) ?_
      refine n_icmp_ge (a := k) (b := 3) (tgt := 36) hx hb (by omega) (by decide) dX3_mastersOn_6 (by decide) (fun c_1 => ?_) (fun c_2 => ?_)
      · skip
        refine lv_iload_n hx hb dX3_mastersOn_36 rfl (lv_at hl 1 rfl) ?_
        subst hQ
        exact e_ro hx hb hr hlocks (by obtain rfl : k = 3 := (by omega); rfl) dX3_mastersOn_37
      · skip
        refine lv_iload_n hx hb dX3_mastersOn_9 rfl (lv_at hl 3 rfl) ?_
        refine lv_iload_n hx hb dX3_mastersOn_10 rfl (lv_at hl 0 rfl) ?_
        refine lv_aload_n hx hb dX3_mastersOn_11 rfl (lv_at hl 2 rfl) ?_
        refine va_get (D := G) (ci := 3) (v := .int (S 0 0)) (C := RX3) (T := TX3) (N := 16) hx hb hts hinX3 hown hK hP 0 rfl rfl 0 (by decide) lk48 (fun _ h9 => h9) rfl dX3_mastersOn_12 ?_
        refine lv_iadd hx hb dX3_mastersOn_15 ?_
        refine n_iconst hx hb 3 dX3_mastersOn_16 (by decide) ?_
        refine x_irem hx hb (nI_ne0 (by decide) (by decide)) dX3_mastersOn_17 ?_
        refine k_roN (As := [.int x, .int (iRem ((nI k) + (S 0 0)) (nI 3))]) (rest := []) (wc := []) (d := 0) (v := bI (pHB x (iRem ((nI k) + (S 0 0)) (nI 3)))) cx (c_X7_hasBit l G T A x (iRem ((nI k) + (S 0 0)) (nI 3)) ) ⟨va_cnB 2 hts gX3_mastersOn_X7_hasBit_n87 rfl rfl rfl (hE.1 (RX3, 87, yX7_hasBit) (by decide +kernel)) (hts (.initialized RX7) (by decide +kernel)) (by decide +kernel) ⟨Nat.le_of_ble_eq_true rfl, Nat.le_of_ble_eq_true rfl⟩, hts (.static yX7_hasBit) (by decide +kernel), trivial⟩ (hP.sub (ws' := []) [] rfl) hK hE rfl hl.1 rfl (Nat.le_of_ble_eq_true rfl) dX3_mastersOn_18 ⟨Nat.le_of_ble_eq_true rfl, Nat.le_of_ble_eq_true rfl⟩ ?_
        refine b_if_eq (b := pHB x (iRem ((nI k) + (S 0 0)) (nI 3))) (tgt := 30) hx hb dX3_mastersOn_21 (by decide) (fun c_3 => ?_) (fun c_4 => ?_)
        · skip
          refine lv_iinc (v := nI (k + 1)) (lv' := [(3, .int (nI (k + 1))), (2, .int (pMO S x k)), (0, .ref (q 0)), (1, .int x)]) hx hb dX3_mastersOn_30 hl (k := 0) rfl (n_inc k 1 rfl) (by decide) rfl (fun ls hl => ?_)
          refine lv_goto (tgt := 4) hx hb dX3_mastersOn_33 (by decide) ?_
          have e_5 : (pMO S x k) = pMO S x (k + 1) := (by simp [pMO, c_2, c_3])
          exact ih4 (k + 1) (by omega) (by omega) _ _ rfl e_5 _ (lv_sub hl [0, 1, 2, 3] rfl)
        · skip
          refine lv_iload_n hx hb dX3_mastersOn_24 rfl (lv_at hl 1 rfl) ?_
          refine n_iconst hx hb 1 dX3_mastersOn_25 (by decide) ?_
          refine lv_iload_n hx hb dX3_mastersOn_26 rfl (lv_at hl 0 rfl) ?_
          refine x_ishl hx hb dX3_mastersOn_27 ?_
          refine lv_ior hx hb dX3_mastersOn_28 ?_
          refine lv_istore_n (lv' := [(2, .int ((pMO S x k) ||| (iShl (nI 1) (nI k)))), (3, .int (nI k)), (0, .ref (q 0)), (1, .int x)]) hx hb dX3_mastersOn_29 rfl hl (by decide) rfl (fun ls hl => ?_)
          refine lv_iinc (v := nI (k + 1)) (lv' := [(3, .int (nI (k + 1))), (2, .int ((pMO S x k) ||| (iShl (nI 1) (nI k)))), (0, .ref (q 0)), (1, .int x)]) hx hb dX3_mastersOn_30 hl (k := 1) rfl (n_inc k 1 rfl) (by decide) rfl (fun ls hl => ?_)
          refine lv_goto (tgt := 4) hx hb dX3_mastersOn_33 (by decide) ?_
          have e_6 : ((pMO S x k) ||| (iShl (nI 1) (nI k))) = pMO S x (k + 1) := (by simp [pMO, c_2, c_4])
          exact ih4 (k + 1) (by omega) (by omega) _ _ rfl e_6 _ (lv_sub hl [0, 1, 2, 3] rfl)
  exact L4 (3 + 1) 0 (by omega) (by omega) _ _ rfl rfl _ (lv_sub hl [0, 1, 2, 3] rfl)
set_option maxHeartbeats 4000000 in
set_option maxRecDepth 100000 in
theorem c_X3_roomsOfKey (l : Launch) (G : va_G) (T : Nat → ClassId) (A : Nat → Prop) (q : Nat → Nat) (S : Nat → Nat → Int32) (x : Int32) : RO l yX3_roomsOfKey wsX3_roomsOfKey 0 G T A (oX3 T q S) [.ref (q 0), .int x] (pRK S x 6) := by
  refine Met.ofW (cc := cX3_roomsOfKey) (maxL := 4) (ret := (some .int)) (by decide) rfl ?_
  intro p e s m args below meth c s₁ B hml hv
  obtain ⟨ha, hP, hK, hE⟩ := hv
  have hx := B.exec
  have hb := B.bytes
  have hr := B.returns
  have hlocks := B.notSynchronized
  have hts := atoms_spec (ws := wsX3_roomsOfKey) B.pre
  have hown : s.vm.findClass RX3 = some m.cls := findClass_of_methodNamed B.named
  have cx : CallFix p m c cX3_roomsOfKey 4 s args wsX3_roomsOfKey RX3 := ⟨hx, hb, hml, hown, hts⟩
  refine w_entry ha (Nat.le_of_ble_eq_true rfl) (fun ls hl => ?_)
  refine w_q (fun Q0 hQ => ?_)
  have lk30 := hts (.fieldLink RX3 30 "WhistleTunes$School" "roomKeys" "[I") (by decide +kernel)
  have hinX3 : ∀ w ∈ wsX30, w ∈ wsX3_roomsOfKey := by decide +kernel
  have hl : lv_has ls 4 [(0, .ref (q 0)), (1, .int x)] := hl
  have hP : va_P G vwCl [(q 0, .inr (3, [.int (S 0 0), .int (S 0 1), .int (S 0 2), .int (S 0 3), .ref (q 5), .ref (q 6), .ref (q 7), .ref (q 8), .ref (q 9), .ref (q 10), .ref (q 11), .ref (q 12), .ref (q 13), .ref (q 14), .ref (q 15), .ref (q 16)])), (q 5, .inl (T 0, 2, .inl (S 5))), (q 6, .inl (T 0, 20, .inl (S 6))), (q 7, .inl (T 0, 160, .inl (S 7))), (q 8, .inl (T 0, 20, .inl (S 8))), (q 9, .inl (T 0, 20, .inl (S 9))), (q 10, .inl (T 0, 20, .inl (S 10))), (q 11, .inl (T 0, 6, .inl (S 11))), (q 12, .inl (T 0, 6, .inl (S 12))), (q 13, .inl (T 0, 6, .inl (S 13))), (q 14, .inl (T 0, 6, .inl (S 14))), (q 15, .inl (T 0, 6, .inl (S 15))), (q 16, .inl (T 0, 2, .inl (S 16)))] s.heap := hP
  refine n_iconst hx hb 0 dX3_roomsOfKey_0 (by decide) ?_
  refine lv_istore_n (lv' := [(2, .int (nI 0)), (0, .ref (q 0)), (1, .int x)]) hx hb dX3_roomsOfKey_1 rfl hl (by decide) rfl (fun ls hl => ?_)
  refine n_iconst hx hb 0 dX3_roomsOfKey_2 (by decide) ?_
  refine lv_istore_n (lv' := [(3, .int (nI 0)), (2, .int (nI 0)), (0, .ref (q 0)), (1, .int x)]) hx hb dX3_roomsOfKey_3 rfl hl (by decide) rfl (fun ls hl => ?_)
  have L4 : ∀ (n9 k : Nat) (hk1 : k ≤ 6) (hk2 : 6 - k < n9) (x3 : Int32) (x2 : Int32) (hx3 : x3 = nI k) (hx2 : x2 = pRK S x k) (ls : Array Slot) (hl : lv_has ls 4 [(3, .int x3), (2, .int x2), (0, .ref (q 0)), (1, .int x)]), W p l e (headSpec wsX3_roomsOfKey (rmD 0 0 0)).room s m args below meth c s.heap [] 0 0 Q0 (F0 m 4 ls []) := by
    intro n9
    induction n9 with
    | zero => intros; omega
    | succ n9 ih4 =>
      intro k hk1 hk2 x3 x2 hx3 hx2 ls hl
      subst hx3 hx2
      refine lv_iload_n hx hb dX3_roomsOfKey_4 rfl (lv_at hl 0 rfl) ?_
      refine lv_bipush (v := nI 6) hx hb dX3_roomsOfKey_5 (by decide) ?_
      refine n_icmp_ge (a := k) (b := 6) (tgt := 32) hx hb (by omega) (by decide) dX3_roomsOfKey_7 (by decide) (fun c_1 => ?_) (fun c_2 => ?_)
      · skip
        refine lv_iload_n hx hb dX3_roomsOfKey_32 rfl (lv_at hl 1 rfl) ?_
        subst hQ
        exact e_ro hx hb hr hlocks (by obtain rfl : k = 6 := (by omega); rfl) dX3_roomsOfKey_33
      · skip
        refine lv_aload_n hx hb dX3_roomsOfKey_10 rfl (lv_at hl 2 rfl) ?_
        refine va_get (D := G) (ci := 3) (v := .ref (q 11)) (C := RX3) (T := TX3) (N := 16) hx hb hts hinX3 hown hK hP 0 rfl rfl 10 (by decide) lk30 (fun _ h9 => h9) rfl dX3_roomsOfKey_11 ?_
        refine lv_iload_n hx hb dX3_roomsOfKey_14 rfl (lv_at hl 0 rfl) ?_
        refine n_iald hx hb hK hP 7 0 rfl rfl k (by omega) (by decide) dX3_roomsOfKey_15 ?_
        refine lv_iload_n hx hb dX3_roomsOfKey_16 rfl (lv_at hl 3 rfl) ?_
        refine lv_icmp_ne (tgt := 26) hx hb dX3_roomsOfKey_17 (by decide) (fun c_3 => ?_) (fun c_4 => ?_)
        · skip
          refine lv_iinc (v := nI (k + 1)) (lv' := [(3, .int (nI (k + 1))), (2, .int (pRK S x k)), (0, .ref (q 0)), (1, .int x)]) hx hb dX3_roomsOfKey_26 hl (k := 0) rfl (n_inc k 1 rfl) (by decide) rfl (fun ls hl => ?_)
          refine lv_goto (tgt := 4) hx hb dX3_roomsOfKey_29 (by decide) ?_
          have e_5 : (pRK S x k) = pRK S x (k + 1) := (by simp [pRK, c_2, c_3])
          exact ih4 (k + 1) (by omega) (by omega) _ _ rfl e_5 _ (lv_sub hl [0, 1, 2, 3] rfl)
        · skip
          refine lv_iload_n hx hb dX3_roomsOfKey_20 rfl (lv_at hl 1 rfl) ?_
          refine n_iconst hx hb 1 dX3_roomsOfKey_21 (by decide) ?_
          refine lv_iload_n hx hb dX3_roomsOfKey_22 rfl (lv_at hl 0 rfl) ?_
          refine x_ishl hx hb dX3_roomsOfKey_23 ?_
          refine lv_ior hx hb dX3_roomsOfKey_24 ?_
          refine lv_istore_n (lv' := [(2, .int ((pRK S x k) ||| (iShl (nI 1) (nI k)))), (3, .int (nI k)), (0, .ref (q 0)), (1, .int x)]) hx hb dX3_roomsOfKey_25 rfl hl (by decide) rfl (fun ls hl => ?_)
          refine lv_iinc (v := nI (k + 1)) (lv' := [(3, .int (nI (k + 1))), (2, .int ((pRK S x k) ||| (iShl (nI 1) (nI k)))), (0, .ref (q 0)), (1, .int x)]) hx hb dX3_roomsOfKey_26 hl (k := 1) rfl (n_inc k 1 rfl) (by decide) rfl (fun ls hl => ?_)
          refine lv_goto (tgt := 4) hx hb dX3_roomsOfKey_29 (by decide) ?_
          have e_6 : ((pRK S x k) ||| (iShl (nI 1) (nI k))) = pRK S x (k + 1) := (by simp [pRK, c_2, c_4])
          exact ih4 (k + 1) (by omega) (by omega) _ _ rfl e_6 _ (lv_sub hl [0, 1, 2, 3] rfl)
  exact L4 (6 + 1) 0 (by omega) (by omega) _ _ rfl rfl _ (lv_sub hl [0, 1, 2, 3] rfl)
set_option maxHeartbeats 4000000 in
set_option maxRecDepth 100000 in
theorem c_X3_messagesWithTune (l : Launch) (G : va_G) (T : Nat → ClassId) (A : Nat → Prop) (q : Nat → Nat) (S : Nat → Nat → Int32) : RO l yX3_messagesWithTune wsX3_messagesWithTune 0 G T A (oX3 T q S) [.ref (q 0)] (nI (pMT S 20)) := by
  refine Met.ofW (cc := cX3_messagesWithTune) (maxL := 6) (ret := (some .int)) (by decide) rfl ?_
  intro p e s m args below meth c s₁ B hml hv
  obtain ⟨ha, hP, hK, hE⟩ := hv
  have hx := B.exec
  have hb := B.bytes
  have hr := B.returns
  have hlocks := B.notSynchronized
  have hts := atoms_spec (ws := wsX3_messagesWithTune) B.pre
  have hown : s.vm.findClass RX3 = some m.cls := findClass_of_methodNamed B.named
  have cx : CallFix p m c cX3_messagesWithTune 6 s args wsX3_messagesWithTune RX3 := ⟨hx, hb, hml, hown, hts⟩
  refine w_entry ha (Nat.le_of_ble_eq_true rfl) (fun ls hl => ?_)
  refine w_q (fun Q0 hQ => ?_)
  have lk15 := hts (.fieldLink RX3 15 "WhistleTunes$School" "tuneLengths" "[I") (by decide +kernel)
  have hinX3 : ∀ w ∈ wsX30, w ∈ wsX3_messagesWithTune := by decide +kernel
  have hl : lv_has ls 6 [(0, .ref (q 0))] := hl
  have hP : va_P G vwCl [(q 0, .inr (3, [.int (S 0 0), .int (S 0 1), .int (S 0 2), .int (S 0 3), .ref (q 5), .ref (q 6), .ref (q 7), .ref (q 8), .ref (q 9), .ref (q 10), .ref (q 11), .ref (q 12), .ref (q 13), .ref (q 14), .ref (q 15), .ref (q 16)])), (q 5, .inl (T 0, 2, .inl (S 5))), (q 6, .inl (T 0, 20, .inl (S 6))), (q 7, .inl (T 0, 160, .inl (S 7))), (q 8, .inl (T 0, 20, .inl (S 8))), (q 9, .inl (T 0, 20, .inl (S 9))), (q 10, .inl (T 0, 20, .inl (S 10))), (q 11, .inl (T 0, 6, .inl (S 11))), (q 12, .inl (T 0, 6, .inl (S 12))), (q 13, .inl (T 0, 6, .inl (S 13))), (q 14, .inl (T 0, 6, .inl (S 14))), (q 15, .inl (T 0, 6, .inl (S 15))), (q 16, .inl (T 0, 2, .inl (S 16)))] s.heap := hP
  refine n_iconst hx hb 0 dX3_messagesWithTune_0 (by decide) ?_
  refine lv_istore_n (lv' := [(1, .int (nI 0)), (0, .ref (q 0))]) hx hb dX3_messagesWithTune_1 rfl hl (by decide) rfl (fun ls hl => ?_)
  refine lv_aload_n hx hb dX3_messagesWithTune_2 rfl (lv_at hl 1 rfl) ?_
  refine va_get (D := G) (ci := 3) (v := .ref (q 6)) (C := RX3) (T := TX3) (N := 16) hx hb hts hinX3 hown hK hP 0 rfl rfl 5 (by decide) lk15 (fun _ h9 => h9) rfl dX3_messagesWithTune_3 ?_
  refine lv_astore_n (lv' := [(2, .ref (q 6)), (1, .int (nI 0)), (0, .ref (q 0))]) hx hb dX3_messagesWithTune_6 rfl hl (by decide) rfl (fun ls hl => ?_)
  refine lv_aload_n hx hb dX3_messagesWithTune_7 rfl (lv_at hl 0 rfl) ?_
  refine va_alen (v := nI 20) hx hb hK hP 2 0 rfl rfl rfl dX3_messagesWithTune_8 ?_
  refine lv_istore_n (lv' := [(3, .int (nI 20)), (2, .ref (q 6)), (1, .int (nI 0)), (0, .ref (q 0))]) hx hb dX3_messagesWithTune_9 rfl hl (by decide) rfl (fun ls hl => ?_)
  refine n_iconst hx hb 0 dX3_messagesWithTune_10 (by decide) ?_
  refine lv_istore (lv' := [(4, .int (nI 0)), (3, .int (nI 20)), (2, .ref (q 6)), (1, .int (nI 0)), (0, .ref (q 0))]) hx hb dX3_messagesWithTune_11 hl (by decide) rfl (fun ls hl => ?_)
  have L13 : ∀ (n9 k : Nat) (hk1 : k ≤ 20) (hk2 : 20 - k < n9) (x4 : Int32) (x1 : Int32) (hx4 : x4 = nI k) (hx1 : x1 = nI (pMT S k)) (ls : Array Slot) (hl : lv_has ls 6 [(4, .int x4), (3, .int (nI 20)), (2, .ref (q 6)), (1, .int x1), (0, .ref (q 0))]), W p l e (headSpec wsX3_messagesWithTune (rmD 0 0 0)).room s m args below meth c s.heap [] 0 0 Q0 (F0 m 13 ls []) := by
    intro n9
    induction n9 with
    | zero => intros; omega
    | succ n9 ih13 =>
      intro k hk1 hk2 x4 x1 hx4 hx1 ls hl
      subst hx4 hx1
      have hle := pMT_le S k
      refine lv_iload hx hb dX3_messagesWithTune_13 (lv_at hl 0 rfl) ?_
      refine lv_iload_n hx hb dX3_messagesWithTune_15 rfl (lv_at hl 1 rfl) ?_
      refine n_icmp_ge (a := k) (b := 20) (tgt := 39) hx hb (by omega) (by decide) dX3_messagesWithTune_16 (by decide) (fun c_1 => ?_) (fun c_2 => ?_)
      · skip
        refine lv_iload_n hx hb dX3_messagesWithTune_39 rfl (lv_at hl 3 rfl) ?_
        subst hQ
        exact e_ro hx hb hr hlocks (by obtain rfl : k = 20 := (by omega); rfl) dX3_messagesWithTune_40
      · skip
        refine lv_aload_n hx hb dX3_messagesWithTune_19 rfl (lv_at hl 2 rfl) ?_
        refine lv_iload hx hb dX3_messagesWithTune_20 (lv_at hl 0 rfl) ?_
        refine n_iald hx hb hK hP 2 0 rfl rfl k (by omega) (by decide) dX3_messagesWithTune_22 ?_
        refine lv_istore (lv' := [(5, .int ((S 6) k)), (4, .int (nI k)), (3, .int (nI 20)), (2, .ref (q 6)), (1, .int (nI (pMT S k))), (0, .ref (q 0))]) hx hb dX3_messagesWithTune_23 hl (by decide) rfl (fun ls hl => ?_)
        refine lv_iload hx hb dX3_messagesWithTune_25 (lv_at hl 0 rfl) ?_
        refine lv_if_le (tgt := 33) hx hb dX3_messagesWithTune_27 (by decide) (fun c_3 => ?_) (fun c_4 => ?_)
        · skip
          refine lv_iinc (v := nI (k + 1)) (lv' := [(4, .int (nI (k + 1))), (5, .int ((S 6) k)), (3, .int (nI 20)), (2, .ref (q 6)), (1, .int (nI (pMT S k))), (0, .ref (q 0))]) hx hb dX3_messagesWithTune_33 hl (k := 1) rfl (n_inc k 1 rfl) (by decide) rfl (fun ls hl => ?_)
          refine lv_goto (tgt := 13) hx hb dX3_messagesWithTune_36 (by decide) ?_
          have e_5 : (nI (pMT S k)) = nI (pMT S (k + 1)) := (by simp [pMT, c_2, c_3])
          exact ih13 (k + 1) (by omega) (by omega) _ _ rfl e_5 _ (lv_sub hl [0, 2, 3, 4, 5] rfl)
        · skip
          refine lv_iinc (v := nI (pMT S k + 1)) (lv' := [(1, .int (nI (pMT S k + 1))), (5, .int ((S 6) k)), (4, .int (nI k)), (3, .int (nI 20)), (2, .ref (q 6)), (0, .ref (q 0))]) hx hb dX3_messagesWithTune_30 hl (k := 4) rfl (n_inc (pMT S k) 1 rfl) (by decide) rfl (fun ls hl => ?_)
          refine lv_iinc (v := nI (k + 1)) (lv' := [(4, .int (nI (k + 1))), (1, .int (nI (pMT S k + 1))), (5, .int ((S 6) k)), (3, .int (nI 20)), (2, .ref (q 6)), (0, .ref (q 0))]) hx hb dX3_messagesWithTune_33 hl (k := 2) rfl (n_inc k 1 rfl) (by decide) rfl (fun ls hl => ?_)
          refine lv_goto (tgt := 13) hx hb dX3_messagesWithTune_36 (by decide) ?_
          have e_6 : (nI (pMT S k + 1)) = nI (pMT S (k + 1)) := (by simp [pMT, c_2, c_4])
          exact ih13 (k + 1) (by omega) (by omega) _ _ rfl e_6 _ (lv_sub hl [0, 3, 4, 1, 5] rfl)
  exact L13 (20 + 1) 0 (by omega) (by omega) _ _ rfl rfl _ (lv_sub hl [0, 1, 2, 3, 4] rfl)
set_option maxHeartbeats 4000000 in
set_option maxRecDepth 100000 in
theorem c_X3_longestTune (l : Launch) (G : va_G) (T : Nat → ClassId) (A : Nat → Prop) (q : Nat → Nat) (S : Nat → Nat → Int32) : RO l yX3_longestTune wsX3_longestTune 1 G T A (oX3 T q S) [.ref (q 0)] (pLT S 20) := by
  refine Met.ofW (cc := cX3_longestTune) (maxL := 6) (ret := (some .int)) (by decide) rfl ?_
  intro p e s m args below meth c s₁ B hml hv
  obtain ⟨ha, hP, hK, hE⟩ := hv
  have hx := B.exec
  have hb := B.bytes
  have hr := B.returns
  have hlocks := B.notSynchronized
  have hts := atoms_spec (ws := wsX3_longestTune) B.pre
  have hown : s.vm.findClass RX3 = some m.cls := findClass_of_methodNamed B.named
  have cx : CallFix p m c cX3_longestTune 6 s args wsX3_longestTune RX3 := ⟨hx, hb, hml, hown, hts⟩
  refine w_entry ha (Nat.le_of_ble_eq_true rfl) (fun ls hl => ?_)
  refine w_q (fun Q0 hQ => ?_)
  have lk15 := hts (.fieldLink RX3 15 "WhistleTunes$School" "tuneLengths" "[I") (by decide +kernel)
  have hinX3 : ∀ w ∈ wsX30, w ∈ wsX3_longestTune := by decide +kernel
  have hl : lv_has ls 6 [(0, .ref (q 0))] := hl
  have hP : va_P G vwCl [(q 0, .inr (3, [.int (S 0 0), .int (S 0 1), .int (S 0 2), .int (S 0 3), .ref (q 5), .ref (q 6), .ref (q 7), .ref (q 8), .ref (q 9), .ref (q 10), .ref (q 11), .ref (q 12), .ref (q 13), .ref (q 14), .ref (q 15), .ref (q 16)])), (q 5, .inl (T 0, 2, .inl (S 5))), (q 6, .inl (T 0, 20, .inl (S 6))), (q 7, .inl (T 0, 160, .inl (S 7))), (q 8, .inl (T 0, 20, .inl (S 8))), (q 9, .inl (T 0, 20, .inl (S 9))), (q 10, .inl (T 0, 20, .inl (S 10))), (q 11, .inl (T 0, 6, .inl (S 11))), (q 12, .inl (T 0, 6, .inl (S 12))), (q 13, .inl (T 0, 6, .inl (S 13))), (q 14, .inl (T 0, 6, .inl (S 14))), (q 15, .inl (T 0, 6, .inl (S 15))), (q 16, .inl (T 0, 2, .inl (S 16)))] s.heap := hP
  refine n_iconst hx hb 0 dX3_longestTune_0 (by decide) ?_
  refine lv_istore_n (lv' := [(1, .int (nI 0)), (0, .ref (q 0))]) hx hb dX3_longestTune_1 rfl hl (by decide) rfl (fun ls hl => ?_)
  refine lv_aload_n hx hb dX3_longestTune_2 rfl (lv_at hl 1 rfl) ?_
  refine va_get (D := G) (ci := 3) (v := .ref (q 6)) (C := RX3) (T := TX3) (N := 16) hx hb hts hinX3 hown hK hP 0 rfl rfl 5 (by decide) lk15 (fun _ h9 => h9) rfl dX3_longestTune_3 ?_
  refine lv_astore_n (lv' := [(2, .ref (q 6)), (1, .int (nI 0)), (0, .ref (q 0))]) hx hb dX3_longestTune_6 rfl hl (by decide) rfl (fun ls hl => ?_)
  refine lv_aload_n hx hb dX3_longestTune_7 rfl (lv_at hl 0 rfl) ?_
  refine va_alen (v := nI 20) hx hb hK hP 2 0 rfl rfl rfl dX3_longestTune_8 ?_
  refine lv_istore_n (lv' := [(3, .int (nI 20)), (2, .ref (q 6)), (1, .int (nI 0)), (0, .ref (q 0))]) hx hb dX3_longestTune_9 rfl hl (by decide) rfl (fun ls hl => ?_)
  refine n_iconst hx hb 0 dX3_longestTune_10 (by decide) ?_
  refine lv_istore (lv' := [(4, .int (nI 0)), (3, .int (nI 20)), (2, .ref (q 6)), (1, .int (nI 0)), (0, .ref (q 0))]) hx hb dX3_longestTune_11 hl (by decide) rfl (fun ls hl => ?_)
  have L13 : ∀ (n9 k : Nat) (hk1 : k ≤ 20) (hk2 : 20 - k < n9) (x4 : Int32) (x1 : Int32) (hx4 : x4 = nI k) (hx1 : x1 = pLT S k) (ls : Array Slot) (hl : lv_has ls 6 [(4, .int x4), (3, .int (nI 20)), (2, .ref (q 6)), (1, .int x1), (0, .ref (q 0))]), W p l e (headSpec wsX3_longestTune (rmD 1 0 0)).room s m args below meth c s.heap [] 0 0 Q0 (F0 m 13 ls []) := by
    intro n9
    induction n9 with
    | zero => intros; omega
    | succ n9 ih13 =>
      intro k hk1 hk2 x4 x1 hx4 hx1 ls hl
      subst hx4 hx1
      refine lv_iload hx hb dX3_longestTune_13 (lv_at hl 0 rfl) ?_
      refine lv_iload_n hx hb dX3_longestTune_15 rfl (lv_at hl 1 rfl) ?_
      refine n_icmp_ge (a := k) (b := 20) (tgt := 38) hx hb (by omega) (by decide) dX3_longestTune_16 (by decide) (fun c_1 => ?_) (fun c_2 => ?_)
      · skip
        refine lv_iload_n hx hb dX3_longestTune_38 rfl (lv_at hl 3 rfl) ?_
        subst hQ
        exact e_ro hx hb hr hlocks (by obtain rfl : k = 20 := (by omega); rfl) dX3_longestTune_39
      · skip
        refine lv_aload_n hx hb dX3_longestTune_19 rfl (lv_at hl 2 rfl) ?_
        refine lv_iload hx hb dX3_longestTune_20 (lv_at hl 0 rfl) ?_
        refine n_iald hx hb hK hP 2 0 rfl rfl k (by omega) (by decide) dX3_longestTune_22 ?_
        refine lv_istore (lv' := [(5, .int ((S 6) k)), (4, .int (nI k)), (3, .int (nI 20)), (2, .ref (q 6)), (1, .int (pLT S k)), (0, .ref (q 0))]) hx hb dX3_longestTune_23 hl (by decide) rfl (fun ls hl => ?_)
        refine lv_iload_n hx hb dX3_longestTune_25 rfl (lv_at hl 4 rfl) ?_
        refine lv_iload hx hb dX3_longestTune_26 (lv_at hl 0 rfl) ?_
        refine va_mmax hx hb (hml.trans hl.1.symm) hown (hts (.methodLink RX3 117 Lib.Math.max.name) (by decide +kernel)) (hts (.static Lib.Math.max.name) (by decide +kernel)) (hts (.initialized "java/lang/Math") (by decide +kernel)) (hts (.code Lib.Math.max.name Lib.Math.max.code 2 (some .int)) (by decide +kernel)) (Nat.le_of_ble_eq_true rfl) (Nat.le_of_ble_eq_true rfl) (Nat.le_of_ble_eq_true rfl) (Nat.le_of_ble_eq_true rfl) dX3_longestTune_28 ?_
        refine lv_istore_n (lv' := [(1, .int (if pLT S k < (S 6) k then (S 6) k else pLT S k)), (5, .int ((S 6) k)), (4, .int (nI k)), (3, .int (nI 20)), (2, .ref (q 6)), (0, .ref (q 0))]) hx hb dX3_longestTune_31 rfl hl (by decide) rfl (fun ls hl => ?_)
        refine lv_iinc (v := nI (k + 1)) (lv' := [(4, .int (nI (k + 1))), (1, .int (if pLT S k < (S 6) k then (S 6) k else pLT S k)), (5, .int ((S 6) k)), (3, .int (nI 20)), (2, .ref (q 6)), (0, .ref (q 0))]) hx hb dX3_longestTune_32 hl (k := 2) rfl (n_inc k 1 rfl) (by decide) rfl (fun ls hl => ?_)
        refine lv_goto (tgt := 13) hx hb dX3_longestTune_35 (by decide) ?_
        have e_3 : (if pLT S k < (S 6) k then (S 6) k else pLT S k) = pLT S (k + 1) := (by simp [pLT, c_2])
        exact ih13 (k + 1) (by omega) (by omega) _ _ rfl e_3 _ (lv_sub hl [0, 3, 4, 1, 5] rfl)
  exact L13 (20 + 1) 0 (by omega) (by omega) _ _ rfl rfl _ (lv_sub hl [0, 1, 2, 3, 4] rfl)
set_option maxHeartbeats 4000000 in
set_option maxRecDepth 100000 in
theorem c_X3_silencedRooms (l : Launch) (G : va_G) (T : Nat → ClassId) (A : Nat → Prop) (q : Nat → Nat) (S : Nat → Nat → Int32) : RO l yX3_silencedRooms wsX3_silencedRooms 1 G T A (oX3 T q S) [.ref (q 0)] (nI (pSR S 6)) := by
  refine Met.ofW (cc := cX3_silencedRooms) (maxL := 3) (ret := (some .int)) (by decide) rfl ?_
  intro p e s m args below meth c s₁ B hml hv
  obtain ⟨ha, hP, hK, hE⟩ := hv
  have hx := B.exec
  have hb := B.bytes
  have hr := B.returns
  have hlocks := B.notSynchronized
  have hts := atoms_spec (ws := wsX3_silencedRooms) B.pre
  have hown : s.vm.findClass RX3 = some m.cls := findClass_of_methodNamed B.named
  have cx : CallFix p m c cX3_silencedRooms 3 s args wsX3_silencedRooms RX3 := ⟨hx, hb, hml, hown, hts⟩
  refine w_entry ha (Nat.le_of_ble_eq_true rfl) (fun ls hl => ?_)
  refine w_q (fun Q0 hQ => ?_)
  have hl : lv_has ls 3 [(0, .ref (q 0))] := hl
  have hP : va_P G vwCl [(q 0, .inr (3, [.int (S 0 0), .int (S 0 1), .int (S 0 2), .int (S 0 3), .ref (q 5), .ref (q 6), .ref (q 7), .ref (q 8), .ref (q 9), .ref (q 10), .ref (q 11), .ref (q 12), .ref (q 13), .ref (q 14), .ref (q 15), .ref (q 16)])), (q 5, .inl (T 0, 2, .inl (S 5))), (q 6, .inl (T 0, 20, .inl (S 6))), (q 7, .inl (T 0, 160, .inl (S 7))), (q 8, .inl (T 0, 20, .inl (S 8))), (q 9, .inl (T 0, 20, .inl (S 9))), (q 10, .inl (T 0, 20, .inl (S 10))), (q 11, .inl (T 0, 6, .inl (S 11))), (q 12, .inl (T 0, 6, .inl (S 12))), (q 13, .inl (T 0, 6, .inl (S 13))), (q 14, .inl (T 0, 6, .inl (S 14))), (q 15, .inl (T 0, 6, .inl (S 15))), (q 16, .inl (T 0, 2, .inl (S 16)))] s.heap := hP
  refine n_iconst hx hb 0 dX3_silencedRooms_0 (by decide) ?_
  refine lv_istore_n (lv' := [(1, .int (nI 0)), (0, .ref (q 0))]) hx hb dX3_silencedRooms_1 rfl hl (by decide) rfl (fun ls hl => ?_)
  refine n_iconst hx hb 0 dX3_silencedRooms_2 (by decide) ?_
  refine lv_istore_n (lv' := [(2, .int (nI 0)), (1, .int (nI 0)), (0, .ref (q 0))]) hx hb dX3_silencedRooms_3 rfl hl (by decide) rfl (fun ls hl => ?_)
  have L4 : ∀ (n9 k : Nat) (hk1 : k ≤ 6) (hk2 : 6 - k < n9) (x2 : Int32) (x1 : Int32) (hx2 : x2 = nI k) (hx1 : x1 = nI (pSR S k)) (ls : Array Slot) (hl : lv_has ls 3 [(2, .int x2), (1, .int x1), (0, .ref (q 0))]), W p l e (headSpec wsX3_silencedRooms (rmD 1 0 0)).room s m args below meth c s.heap [] 0 0 Q0 (F0 m 4 ls []) := by
    intro n9
    induction n9 with
    | zero => intros; omega
    | succ n9 ih4 =>
      intro k hk1 hk2 x2 x1 hx2 hx1 ls hl
      subst hx2 hx1
      have hle := pSR_le S k
      refine lv_iload_n hx hb dX3_silencedRooms_4 rfl (lv_at hl 0 rfl) ?_
      refine lv_bipush (v := nI 6) hx hb dX3_silencedRooms_5 (by decide) ?_
      refine n_icmp_ge (a := k) (b := 6) (tgt := 27) hx hb (by omega) (by decide) dX3_silencedRooms_7 (by decide) (fun c_1 => ?_) (fun c_2 => ?_)
      · skip
        refine lv_iload_n hx hb dX3_silencedRooms_27 rfl (lv_at hl 1 rfl) ?_
        subst hQ
        exact e_ro hx hb hr hlocks (by obtain rfl : k = 6 := (by omega); rfl) dX3_silencedRooms_28
      · skip
        refine lv_aload_n hx hb dX3_silencedRooms_10 rfl (lv_at hl 2 rfl) ?_
        refine lv_iload_n hx hb dX3_silencedRooms_11 rfl (lv_at hl 0 rfl) ?_
        refine k_roV (As := [.int (nI k)]) (rest := []) (wc := oX3 T q S) (d := 0) (v := bI (pSil S k)) cx (c_X3_isSilenced l G T A q S k (by omega)) (cwV 1 hts gX3_silencedRooms_X3_isSilenced rfl rfl rfl (by decide +kernel) ⟨Nat.le_of_ble_eq_true rfl, Nat.le_of_ble_eq_true rfl⟩) hP hK hE (va_recv hK hP (ci := 3) (q0 := 0) rfl rfl) rfl hl.1 rfl (Nat.le_of_ble_eq_true rfl) dX3_silencedRooms_12 ⟨Nat.le_of_ble_eq_true rfl, Nat.le_of_ble_eq_true rfl⟩ ?_
        refine b_if_eq (b := pSil S k) (tgt := 21) hx hb dX3_silencedRooms_15 (by decide) (fun c_3 => ?_) (fun c_4 => ?_)
        · skip
          refine lv_iinc (v := nI (k + 1)) (lv' := [(2, .int (nI (k + 1))), (1, .int (nI (pSR S k))), (0, .ref (q 0))]) hx hb dX3_silencedRooms_21 hl (k := 0) rfl (n_inc k 1 rfl) (by decide) rfl (fun ls hl => ?_)
          refine lv_goto (tgt := 4) hx hb dX3_silencedRooms_24 (by decide) ?_
          have e_5 : (nI (pSR S k)) = nI (pSR S (k + 1)) := (by simp [pSR, c_2, c_3])
          exact ih4 (k + 1) (by omega) (by omega) _ _ rfl e_5 _ (lv_sub hl [0, 1, 2] rfl)
        · skip
          refine lv_iinc (v := nI (pSR S k + 1)) (lv' := [(1, .int (nI (pSR S k + 1))), (2, .int (nI k)), (0, .ref (q 0))]) hx hb dX3_silencedRooms_18 hl (k := 1) rfl (n_inc (pSR S k) 1 rfl) (by decide) rfl (fun ls hl => ?_)
          refine lv_iinc (v := nI (k + 1)) (lv' := [(2, .int (nI (k + 1))), (1, .int (nI (pSR S k + 1))), (0, .ref (q 0))]) hx hb dX3_silencedRooms_21 hl (k := 1) rfl (n_inc k 1 rfl) (by decide) rfl (fun ls hl => ?_)
          refine lv_goto (tgt := 4) hx hb dX3_silencedRooms_24 (by decide) ?_
          have e_6 : (nI (pSR S k + 1)) = nI (pSR S (k + 1)) := (by simp [pSR, c_2, c_4])
          exact ih4 (k + 1) (by omega) (by omega) _ _ rfl e_6 _ (lv_sub hl [0, 1, 2] rfl)
  exact L4 (6 + 1) 0 (by omega) (by omega) _ _ rfl rfl _ (lv_sub hl [0, 1, 2] rfl)
set_option maxHeartbeats 4000000 in
set_option maxRecDepth 100000 in
theorem c_X3_noteAt (l : Launch) (G : va_G) (T : Nat → ClassId) (A : Nat → Prop) (q : Nat → Nat) (S : Nat → Nat → Int32) (mm : Nat) (k : Nat) (hm20 : mm < 20) (hk8 : k < 8) : RO l yX3_noteAt wsX3_noteAt 0 G T A (oX3 T q S) [.ref (q 0), .int (nI mm), .int (nI k)] (S 7 (mm * 8 + k)) := by
  refine Met.ofW (cc := cX3_noteAt) (maxL := 4) (ret := (some .int)) (by decide) rfl ?_
  intro p e s m args below meth c s₁ B hml hv
  obtain ⟨ha, hP, hK, hE⟩ := hv
  have hx := B.exec
  have hb := B.bytes
  have hr := B.returns
  have hlocks := B.notSynchronized
  have hts := atoms_spec (ws := wsX3_noteAt) B.pre
  have hown : s.vm.findClass RX3 = some m.cls := findClass_of_methodNamed B.named
  have cx : CallFix p m c cX3_noteAt 4 s args wsX3_noteAt RX3 := ⟨hx, hb, hml, hown, hts⟩
  refine w_entry ha (Nat.le_of_ble_eq_true rfl) (fun ls hl => ?_)
  refine w_q (fun Q0 hQ => ?_)
  have lk18 := hts (.fieldLink RX3 18 "WhistleTunes$School" "tuneNotes" "[I") (by decide +kernel)
  have hinX3 : ∀ w ∈ wsX30, w ∈ wsX3_noteAt := by decide +kernel
  have hl : lv_has ls 4 [(0, .ref (q 0)), (1, .int (nI mm)), (2, .int (nI k))] := hl
  have hP : va_P G vwCl [(q 0, .inr (3, [.int (S 0 0), .int (S 0 1), .int (S 0 2), .int (S 0 3), .ref (q 5), .ref (q 6), .ref (q 7), .ref (q 8), .ref (q 9), .ref (q 10), .ref (q 11), .ref (q 12), .ref (q 13), .ref (q 14), .ref (q 15), .ref (q 16)])), (q 5, .inl (T 0, 2, .inl (S 5))), (q 6, .inl (T 0, 20, .inl (S 6))), (q 7, .inl (T 0, 160, .inl (S 7))), (q 8, .inl (T 0, 20, .inl (S 8))), (q 9, .inl (T 0, 20, .inl (S 9))), (q 10, .inl (T 0, 20, .inl (S 10))), (q 11, .inl (T 0, 6, .inl (S 11))), (q 12, .inl (T 0, 6, .inl (S 12))), (q 13, .inl (T 0, 6, .inl (S 13))), (q 14, .inl (T 0, 6, .inl (S 14))), (q 15, .inl (T 0, 6, .inl (S 15))), (q 16, .inl (T 0, 2, .inl (S 16)))] s.heap := hP
  refine lv_iload_n hx hb dX3_noteAt_0 rfl (lv_at hl 1 rfl) ?_
  refine lv_bipush (v := nI 8) hx hb dX3_noteAt_1 (by decide) ?_
  refine n_imul (a := mm) (b := 8) hx hb dX3_noteAt_3 ?_
  refine lv_iload_n hx hb dX3_noteAt_4 rfl (lv_at hl 2 rfl) ?_
  refine n_iadd (a := mm * 8) (b := k) hx hb dX3_noteAt_5 ?_
  refine lv_istore_n (lv' := [(3, .int (nI (mm * 8 + k))), (0, .ref (q 0)), (1, .int (nI mm)), (2, .int (nI k))]) hx hb dX3_noteAt_6 rfl hl (by decide) rfl (fun ls hl => ?_)
  refine lv_iload_n hx hb dX3_noteAt_7 rfl (lv_at hl 0 rfl) ?_
  refine n_if_lt (a := mm * 8 + k) hx hb (by omega) dX3_noteAt_8 29 (by decide) ?_
  refine lv_iload_n hx hb dX3_noteAt_11 rfl (lv_at hl 0 rfl) ?_
  refine lv_aload_n hx hb dX3_noteAt_12 rfl (lv_at hl 1 rfl) ?_
  refine va_get (D := G) (ci := 3) (v := .ref (q 7)) (C := RX3) (T := TX3) (N := 16) hx hb hts hinX3 hown hK hP 0 rfl rfl 6 (by decide) lk18 (fun _ h9 => h9) rfl dX3_noteAt_13 ?_
  refine va_alen (v := nI 160) hx hb hK hP 3 0 rfl rfl rfl dX3_noteAt_16 ?_
  refine n_icmp_ge (a := mm * 8 + k) (b := 160) (tgt := 29) hx hb (by omega) (by decide) dX3_noteAt_17 (by decide) (fun c_1 => by exfalso; omega) (fun c_2 => ?_)
  refine lv_aload_n hx hb dX3_noteAt_20 rfl (lv_at hl 1 rfl) ?_
  refine va_get (D := G) (ci := 3) (v := .ref (q 7)) (C := RX3) (T := TX3) (N := 16) hx hb hts hinX3 hown hK hP 0 rfl rfl 6 (by decide) lk18 (fun _ h9 => h9) rfl dX3_noteAt_21 ?_
  refine lv_iload_n hx hb dX3_noteAt_24 rfl (lv_at hl 0 rfl) ?_
  refine n_iald hx hb hK hP 3 0 rfl rfl (mm * 8 + k) (by omega) (by decide) dX3_noteAt_25 ?_
  refine lv_goto (tgt := 30) hx hb dX3_noteAt_26 (by decide) ?_
  subst hQ
  exact e_ro hx hb hr hlocks rfl dX3_noteAt_30
