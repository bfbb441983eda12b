/-! School's writing methods, Outcome, Text, Tune: what they do (pure), then their contracts (printed by wip/p33/s21.py) -/
def pB1 (x : Int32) : Int32 := x - (iUsh x (nI 1) &&& 1431655765)
def pB2 (x : Int32) : Int32 := (x &&& 858993459) + (iUsh x (nI 2) &&& 858993459)
def pB3 (x : Int32) : Int32 := (x + iUsh x (nI 4)) &&& 252645135
def pB4 (x : Int32) : Int32 := x + iUsh x (nI 8)
def pB5 (x : Int32) : Int32 := x + iUsh x (nI 16)
def pBC (x : Int32) : Int32 := pB5 (pB4 (pB3 (pB2 (pB1 x)))) &&& nI 63
def pFM (x y : Int32) : Int32 := if 0 ≤ x ^^^ y then iRem x y else if iRem x y = 0 then iRem x y else iRem x y + y
def pZr (f : Nat → Int32) : Nat → (Nat → Int32) | 0 => f | k + 1 => upd (pZr f k) k (nI 0)
def pBM (n : Int32) (f : Nat → Int32) : Nat → Int32 := if iRem n (nI 7) = 0 then pZr f 6 else f
def pCU (f : Nat → Int32) (u : Int32) : Nat → (Nat → Int32) | 0 => f | k + 1 => if pHB u (nI k) then upd (pCU f u k) k ((pCU f u k) k + nI 1) else pCU f u k
def pCN (f : Nat → Int32) (h u : Int32) : Nat → (Nat → Int32) | 0 => f | k + 1 => if pHB u (nI k) then pCN f h u k else if pHB h (nI k) then upd (pCN f h u k) k ((pCN f h u k) k + nI 1) else pCN f h u k
def pLW (f : Nat → Int32) (O : Nat → Nat → Int32) (r m : Nat) : Nat → Int32 := upd (upd (upd (upd (upd (upd f 0 (nI r)) 1 (nI m)) 2 (O 0 0)) 3 (O 0 2)) 4 (O 0 3)) 5 (O 0 4)
def pHe (S : Nat → Nat → Int32) (r : Nat) : Int32 := pRO (pFHo S r 3) 6 &&& (iShl (nI 1) (nI r) ^^^ -1)
def pUn (S : Nat → Nat → Int32) (r : Nat) : Int32 := pHe S r &&& pRK S (S 11 r) 6
def pCa (S : Nat → Nat → Int32) (r m : Nat) : Int32 := pMO S (pFHo S r 3) 3 &&& S 8 m
def pRa (S : Nat → Nat → Int32) (r m : Nat) : Int32 := if 12 ≤ m ∧ S 11 r = S 0 1 then pUn S r else nI 0
def pAt (cd : Nat → Nat) (n i : Nat) : Nat := if i < n then cd i else 0
theorem pAt_lt {cd : Nat → Nat} {n i : Nat} (h : ∀ i, i < n → cd i < 127) : pAt cd n i < 127 := by
  unfold pAt; split
  · exact h i (by assumption)
  · omega
def pNu (cd : Nat → Nat) (n a : Nat) : Nat → Int32 | 0 => nI 0 | k + 1 => pNu cd n a k * nI 10 + (nI (pAt cd n (a + k)) - nI 48)
def pRep (f : Nat → Int32) (st n0 : Nat) : Nat → (Nat → Int32) | 0 => f | k + 1 => if n0 + k < 9 then upd (pRep f st n0 k) (n0 + k) ((pRep f st n0 k) (st + k)) else pRep f st n0 k
def pMin9 (n : Nat) : Nat := if n < 9 then n else 9

set_option maxHeartbeats 4000000 in
set_option maxRecDepth 100000 in
theorem c_J6_bitCount_0f7a4 (l : Launch) (G : va_G) (T : Nat → ClassId) (A : Nat → Prop) (x : Int32) : RO l yJ6_bitCount_0f7a4 wsJ6_bitCount_0f7a4 0 G T A ([]) [.int x] (pBC x) := by
  refine Met.ofW (cc := cJ6_bitCount_0f7a4) (maxL := 1) (ret := (some .int)) (by decide) rfl ?_
  intro p e s m args below meth c s₁ B hml hv
  obtain ⟨ha, hP, hK, hE⟩ := hv
  have hx := B.exec
  have hb := B.bytes
  have hr := B.returns
  have hlocks := B.notSynchronized
  have hts := atoms_spec (ws := wsJ6_bitCount_0f7a4) B.pre
  have hown : s.vm.findClass RJ6 = some m.cls := findClass_of_methodNamed B.named
  have cx : CallFix p m c cJ6_bitCount_0f7a4 1 s args wsJ6_bitCount_0f7a4 RJ6 := ⟨hx, hb, hml, hown, hts⟩
  refine w_entry ha (Nat.le_of_ble_eq_true rfl) (fun ls hl => ?_)
  refine w_q (fun Q0 hQ => ?_)
  have hl : lv_has ls 1 [(0, .int x)] := hl
  have hP : va_P G vwCl [] s.heap := hP
  refine lv_iload_n hx hb dJ6_bitCount_0f7a4_0 rfl (lv_at hl 0 rfl) ?_
  refine lv_iload_n hx hb dJ6_bitCount_0f7a4_1 rfl (lv_at hl 0 rfl) ?_
  refine n_iconst hx hb 1 dJ6_bitCount_0f7a4_2 (by decide) ?_
  refine lv_iushr (v := iUsh x (nI 1)) hx hb dJ6_bitCount_0f7a4_3 rfl ?_
  refine lv_ldcw (v := 1431655765) hx hb hown (hts (.constant RJ6 265 (1431655765)) (by decide +kernel)) dJ6_bitCount_0f7a4_4 ?_
  refine lv_iand hx hb dJ6_bitCount_0f7a4_7 ?_
  refine lv_isub hx hb dJ6_bitCount_0f7a4_8 ?_
  refine lv_istore_n (lv' := [(0, .int (x - ((iUsh x (nI 1)) &&& (1431655765 : Int32))))]) hx hb dJ6_bitCount_0f7a4_9 rfl hl (by decide) rfl (fun ls hl => ?_)
  refine lv_iload_n hx hb dJ6_bitCount_0f7a4_10 rfl (lv_at hl 0 rfl) ?_
  refine lv_ldcw (v := 858993459) hx hb hown (hts (.constant RJ6 266 (858993459)) (by decide +kernel)) dJ6_bitCount_0f7a4_11 ?_
  refine lv_iand hx hb dJ6_bitCount_0f7a4_14 ?_
  refine lv_iload_n hx hb dJ6_bitCount_0f7a4_15 rfl (lv_at hl 0 rfl) ?_
  refine n_iconst hx hb 2 dJ6_bitCount_0f7a4_16 (by decide) ?_
  refine lv_iushr (v := iUsh (x - ((iUsh x (nI 1)) &&& (1431655765 : Int32))) (nI 2)) hx hb dJ6_bitCount_0f7a4_17 rfl ?_
  refine lv_ldcw (v := 858993459) hx hb hown (hts (.constant RJ6 266 (858993459)) (by decide +kernel)) dJ6_bitCount_0f7a4_18 ?_
  refine lv_iand hx hb dJ6_bitCount_0f7a4_21 ?_
  refine lv_iadd hx hb dJ6_bitCount_0f7a4_22 ?_
  refine lv_istore_n (lv' := [(0, .int (((x - ((iUsh x (nI 1)) &&& (1431655765 : Int32))) &&& (858993459 : Int32)) + ((iUsh (x - ((iUsh x (nI 1)) &&& (1431655765 : Int32))) (nI 2)) &&& (858993459 : Int32))))]) hx hb dJ6_bitCount_0f7a4_23 rfl hl (by decide) rfl (fun ls hl => ?_)
  refine lv_iload_n hx hb dJ6_bitCount_0f7a4_24 rfl (lv_at hl 0 rfl) ?_
  refine lv_iload_n hx hb dJ6_bitCount_0f7a4_25 rfl (lv_at hl 0 rfl) ?_
  refine n_iconst hx hb 4 dJ6_bitCount_0f7a4_26 (by decide) ?_
  refine lv_iushr (v := iUsh (((x - ((iUsh x (nI 1)) &&& (1431655765 : Int32))) &&& (858993459 : Int32)) + ((iUsh (x - ((iUsh x (nI 1)) &&& (1431655765 : Int32))) (nI 2)) &&& (858993459 : Int32))) (nI 4)) hx hb dJ6_bitCount_0f7a4_27 rfl ?_
  refine lv_iadd hx hb dJ6_bitCount_0f7a4_28 ?_
  refine lv_ldcw (v := 252645135) hx hb hown (hts (.constant RJ6 267 (252645135)) (by decide +kernel)) dJ6_bitCount_0f7a4_29 ?_
  refine lv_iand hx hb dJ6_bitCount_0f7a4_32 ?_
  refine lv_istore_n (lv' := [(0, .int (((((x - ((iUsh x (nI 1)) &&& (1431655765 : Int32))) &&& (858993459 : Int32)) + ((iUsh (x - ((iUsh x (nI 1)) &&& (1431655765 : Int32))) (nI 2)) &&& (858993459 : Int32))) + (iUsh (((x - ((iUsh x (nI 1)) &&& (1431655765 : Int32))) &&& (858993459 : Int32)) + ((iUsh (x - ((iUsh x (nI 1)) &&& (1431655765 : Int32))) (nI 2)) &&& (858993459 : Int32))) (nI 4))) &&& (252645135 : Int32)))]) hx hb dJ6_bitCount_0f7a4_33 rfl hl (by decide) rfl (fun ls hl => ?_)
  refine lv_iload_n hx hb dJ6_bitCount_0f7a4_34 rfl (lv_at hl 0 rfl) ?_
  refine lv_iload_n hx hb dJ6_bitCount_0f7a4_35 rfl (lv_at hl 0 rfl) ?_
  refine lv_bipush (v := nI 8) hx hb dJ6_bitCount_0f7a4_36 (by decide) ?_
  refine lv_iushr (v := iUsh (((((x - ((iUsh x (nI 1)) &&& (1431655765 : Int32))) &&& (858993459 : Int32)) + ((iUsh (x - ((iUsh x (nI 1)) &&& (1431655765 : Int32))) (nI 2)) &&& (858993459 : Int32))) + (iUsh (((x - ((iUsh x (nI 1)) &&& (1431655765 : Int32))) &&& (858993459 : Int32)) + ((iUsh (x - ((iUsh x (nI 1)) &&& (1431655765 : Int32))) (nI 2)) &&& (858993459 : Int32))) (nI 4))) &&& (252645135 : Int32)) (nI 8)) hx hb dJ6_bitCount_0f7a4_38 rfl ?_
  refine lv_iadd hx hb dJ6_bitCount_0f7a4_39 ?_
  refine lv_istore_n (lv' := [(0, .int ((((((x - ((iUsh x (nI 1)) &&& (1431655765 : Int32))) &&& (858993459 : Int32)) + ((iUsh (x - ((iUsh x (nI 1)) &&& (1431655765 : Int32))) (nI 2)) &&& (858993459 : Int32))) + (iUsh (((x - ((iUsh x (nI 1)) &&& (1431655765 : Int32))) &&& (858993459 : Int32)) + ((iUsh (x - ((iUsh x (nI 1)) &&& (1431655765 : Int32))) (nI 2)) &&& (858993459 : Int32))) (nI 4))) &&& (252645135 : Int32)) + (iUsh (((((x - ((iUsh x (nI 1)) &&& (1431655765 : Int32))) &&& (858993459 : Int32)) + ((iUsh (x - ((iUsh x (nI 1)) &&& (1431655765 : Int32))) (nI 2)) &&& (858993459 : Int32))) + (iUsh (((x - ((iUsh x (nI 1)) &&& (1431655765 : Int32))) &&& (858993459 : Int32)) + ((iUsh (x - ((iUsh x (nI 1)) &&& (1431655765 : Int32))) (nI 2)) &&& (858993459 : Int32))) (nI 4))) &&& (252645135 : Int32)) (nI 8))))]) hx hb dJ6_bitCount_0f7a4_40 rfl hl (by decide) rfl (fun ls hl => ?_)
  refine lv_iload_n hx hb dJ6_bitCount_0f7a4_41 rfl (lv_at hl 0 rfl) ?_
  refine lv_iload_n hx hb dJ6_bitCount_0f7a4_42 rfl (lv_at hl 0 rfl) ?_
  refine lv_bipush (v := nI 16) hx hb dJ6_bitCount_0f7a4_43 (by decide) ?_
  refine lv_iushr (v := iUsh ((((((x - ((iUsh x (nI 1)) &&& (1431655765 : Int32))) &&& (858993459 : Int32)) + ((iUsh (x - ((iUsh x (nI 1)) &&& (1431655765 : Int32))) (nI 2)) &&& (858993459 : Int32))) + (iUsh (((x - ((iUsh x (nI 1)) &&& (1431655765 : Int32))) &&& (858993459 : Int32)) + ((iUsh (x - ((iUsh x (nI 1)) &&& (1431655765 : Int32))) (nI 2)) &&& (858993459 : Int32))) (nI 4))) &&& (252645135 : Int32)) + (iUsh (((((x - ((iUsh x (nI 1)) &&& (1431655765 : Int32))) &&& (858993459 : Int32)) + ((iUsh (x - ((iUsh x (nI 1)) &&& (1431655765 : Int32))) (nI 2)) &&& (858993459 : Int32))) + (iUsh (((x - ((iUsh x (nI 1)) &&& (1431655765 : Int32))) &&& (858993459 : Int32)) + ((iUsh (x - ((iUsh x (nI 1)) &&& (1431655765 : Int32))) (nI 2)) &&& (858993459 : Int32))) (nI 4))) &&& (252645135 : Int32)) (nI 8))) (nI 16)) hx hb dJ6_bitCount_0f7a4_45 rfl ?_
  refine lv_iadd hx hb dJ6_bitCount_0f7a4_46 ?_
  refine lv_istore_n (lv' := [(0, .int (((((((x - ((iUsh x (nI 1)) &&& (1431655765 : Int32))) &&& (858993459 : Int32)) + ((iUsh (x - ((iUsh x (nI 1)) &&& (1431655765 : Int32))) (nI 2)) &&& (858993459 : Int32))) + (iUsh (((x - ((iUsh x (nI 1)) &&& (1431655765 : Int32))) &&& (858993459 : Int32)) + ((iUsh (x - ((iUsh x (nI 1)) &&& (1431655765 : Int32))) (nI 2)) &&& (858993459 : Int32))) (nI 4))) &&& (252645135 : Int32)) + (iUsh (((((x - ((iUsh x (nI 1)) &&& (1431655765 : Int32))) &&& (858993459 : Int32)) + ((iUsh (x - ((iUsh x (nI 1)) &&& (1431655765 : Int32))) (nI 2)) &&& (858993459 : Int32))) + (iUsh (((x - ((iUsh x (nI 1)) &&& (1431655765 : Int32))) &&& (858993459 : Int32)) + ((iUsh (x - ((iUsh x (nI 1)) &&& (1431655765 : Int32))) (nI 2)) &&& (858993459 : Int32))) (nI 4))) &&& (252645135 : Int32)) (nI 8))) + (iUsh ((((((x - ((iUsh x (nI 1)) &&& (1431655765 : Int32))) &&& (858993459 : Int32)) + ((iUsh (x - ((iUsh x (nI 1)) &&& (1431655765 : Int32))) (nI 2)) &&& (858993459 : Int32))) + (iUsh (((x - ((iUsh x (nI 1)) &&& (1431655765 : Int32))) &&& (858993459 : Int32)) + ((iUsh (x - ((iUsh x (nI 1)) &&& (1431655765 : Int32))) (nI 2)) &&& (858993459 : Int32))) (nI 4))) &&& (252645135 : Int32)) + (iUsh (((((x - ((iUsh x (nI 1)) &&& (1431655765 : Int32))) &&& (858993459 : Int32)) + ((iUsh (x - ((iUsh x (nI 1)) &&& (1431655765 : Int32))) (nI 2)) &&& (858993459 : Int32))) + (iUsh (((x - ((iUsh x (nI 1)) &&& (1431655765 : Int32))) &&& (858993459 : Int32)) + ((iUsh (x - ((iUsh x (nI 1)) &&& (1431655765 : Int32))) (nI 2)) &&& (858993459 : Int32))) (nI 4))) &&& (252645135 : Int32)) (nI 8))) (nI 16))))]) hx hb dJ6_bitCount_0f7a4_47 rfl hl (by decide) rfl (fun ls hl => ?_)
  refine lv_iload_n hx hb dJ6_bitCount_0f7a4_48 rfl (lv_at hl 0 rfl) ?_
  refine lv_bipush (v := nI 63) hx hb dJ6_bitCount_0f7a4_49 (by decide) ?_
  refine lv_iand hx hb dJ6_bitCount_0f7a4_51 ?_
  subst hQ
  exact e_ro hx hb hr hlocks rfl dJ6_bitCount_0f7a4_52
set_option maxHeartbeats 4000000 in
set_option maxRecDepth 100000 in
theorem c_J9_floorMod_7cf53 (l : Launch) (G : va_G) (T : Nat → ClassId) (A : Nat → Prop) (x : Int32) (y : Int32) (hy0 : ¬ y = 0) : RO l yJ9_floorMod_7cf53 wsJ9_floorMod_7cf53 0 G T A ([]) [.int x, .int y] (pFM x y) := by
  refine ofWF (cc := cJ9_floorMod_7cf53) (maxL := 3) (ret := (some .int)) (by decide +kernel) rfl ?_
  intro p e s m args below meth c s₁ B hml hv
  obtain ⟨ha, hP, hK, hE⟩ := hv
  have hx := B.exec
  have hb := B.bytes
  have hr := B.returns
  have hlocks := B.notSynchronized
  have hts := atoms_spec (ws := wsJ9_floorMod_7cf53) B.pre
  have hown : s.vm.findClass RJ9 = some m.cls := findClass_of_methodNamed B.named
  have cx : CallFix p m c cJ9_floorMod_7cf53 3 s args wsJ9_floorMod_7cf53 RJ9 := ⟨hx, hb, hml, hown, hts⟩
  refine w_entry ha (Nat.le_of_ble_eq_true rfl) (fun ls hl => ?_)
  refine w_q (fun Q0 hQ => ?_)
  have hl : lv_has ls 3 [(0, .int x), (1, .int y)] := hl
  have hP : va_P G vwCl [] s.heap := hP
  refine lv_iload_n hx hb dJ9_floorMod_7cf53_0 rfl (lv_at hl 0 rfl) ?_
  refine lv_iload_n hx hb dJ9_floorMod_7cf53_1 rfl (lv_at hl 1 rfl) ?_
  refine x_irem hx hb hy0 dJ9_floorMod_7cf53_2 ?_
  refine lv_istore_n (lv' := [(2, .int (iRem x y)), (0, .int x), (1, .int y)]) hx hb dJ9_floorMod_7cf53_3 rfl hl (by decide) rfl (fun ls hl => ?_)
  refine lv_iload_n hx hb dJ9_floorMod_7cf53_4 rfl (lv_at hl 1 rfl) ?_
  refine lv_iload_n hx hb dJ9_floorMod_7cf53_5 rfl (lv_at hl 2 rfl) ?_
  refine lv_ixor hx hb dJ9_floorMod_7cf53_6 ?_
  refine lv_if_ge (tgt := 18) hx hb dJ9_floorMod_7cf53_7 (by decide) (fun c_1 => ?_) (fun c_2 => ?_)
  · skip
    refine lv_iload_n hx hb dJ9_floorMod_7cf53_18 rfl (lv_at hl 0 rfl) ?_
    subst hQ
    exact e_ro hx hb hr hlocks (by simp [pFM, c_1]) dJ9_floorMod_7cf53_19
  · skip
    refine lv_iload_n hx hb dJ9_floorMod_7cf53_10 rfl (lv_at hl 0 rfl) ?_
    refine lv_if_eq (tgt := 18) hx hb dJ9_floorMod_7cf53_11 (by decide) (fun c_3 => ?_) (fun c_4 => ?_)
    · skip
      refine lv_iload_n hx hb dJ9_floorMod_7cf53_18 rfl (lv_at hl 0 rfl) ?_
      subst hQ
      exact e_ro hx hb hr hlocks (by simp [pFM, c_2, c_3]) dJ9_floorMod_7cf53_19
    · skip
      refine lv_iload_n hx hb dJ9_floorMod_7cf53_14 rfl (lv_at hl 0 rfl) ?_
      refine lv_iload_n hx hb dJ9_floorMod_7cf53_15 rfl (lv_at hl 2 rfl) ?_
      refine lv_iadd hx hb dJ9_floorMod_7cf53_16 ?_
      subst hQ
      exact e_ro hx hb hr hlocks (by simp [pFM, c_2, c_4]) dJ9_floorMod_7cf53_17
set_option maxHeartbeats 4000000 in
set_option maxRecDepth 100000 in
theorem c_X3_copyFrom (l : Launch) (G : va_G) (T : Nat → ClassId) (sz : Nat) (q : Nat → Nat) (qp : Nat → Nat) (S : Nat → Nat → Int32) (P2 : Nat → Nat → Int32) : RWv l yX3_copyFrom wsX3_copyFrom 1 0 0 G T sz (oX3 T q S ++ oX3 T qp P2) [.ref (q 0), .ref (qp 0)] (oX3 T q P2 ++ oX3 T qp P2) := by
  refine Met.ofW (cc := cX3_copyFrom) (maxL := 2) (ret := none) (by decide) rfl ?_
  intro p e s m args below meth c s₁ B hml hv
  obtain ⟨ha, hsz, hP, hK, hD0, hE0⟩ := hv
  have hx := B.exec
  have hb := B.bytes
  have hr := B.returns
  have hlocks := B.notSynchronized
  have hts := atoms_spec (ws := wsX3_copyFrom) B.pre
  have hown : s.vm.findClass RX3 = some m.cls := findClass_of_methodNamed B.named
  have cx : CallFix p m c cX3_copyFrom 2 s args wsX3_copyFrom RX3 := ⟨hx, hb, hml, hown, hts⟩
  subst hsz
  have hD := hD0.self (sz := s.heap.size)
  generalize hAe : va_A (oX3 T q S ++ oX3 T qp P2) s.heap.size = A at hD hE0 ⊢
  have hE : gE A s s.heap := hE0
  have hA : ∀ q : Nat, s.heap.size ≤ q → A q := fun q h => by rw [← hAe]; exact Or.inr h
  have hS : va_S A s.heap s.heap [] := va_S.rf
  refine w_entry ha (Nat.le_of_ble_eq_true rfl) (fun ls hl => ?_)
  refine w_q (fun Q0 hQ => ?_)
  have lk48 := hts (.fieldLink RX3 48 "WhistleTunes$School" "night" "I") (by decide +kernel)
  have hinX3 : ∀ w ∈ wsX30, w ∈ wsX3_copyFrom := by decide +kernel
  have lk52 := hts (.fieldLink RX3 52 "WhistleTunes$School" "keyOfNow" "I") (by decide +kernel)
  have lk55 := hts (.fieldLink RX3 55 "WhistleTunes$School" "awakeFloors" "I") (by decide +kernel)
  have lk58 := hts (.fieldLink RX3 58 "WhistleTunes$School" "raisedRooms" "I") (by decide +kernel)
  have lk9 := hts (.fieldLink RX3 9 "WhistleTunes$School" "settings" "[I") (by decide +kernel)
  have lk15 := hts (.fieldLink RX3 15 "WhistleTunes$School" "tuneLengths" "[I") (by decide +kernel)
  have lk18 := hts (.fieldLink RX3 18 "WhistleTunes$School" "tuneNotes" "[I") (by decide +kernel)
  have lk21 := hts (.fieldLink RX3 21 "WhistleTunes$School" "forbidders" "[I") (by decide +kernel)
  have lk24 := hts (.fieldLink RX3 24 "WhistleTunes$School" "timesWhistled" "[I") (by decide +kernel)
  have lk27 := hts (.fieldLink RX3 27 "WhistleTunes$School" "timesUnderstood" "[I") (by decide +kernel)
  have lk30 := hts (.fieldLink RX3 30 "WhistleTunes$School" "roomKeys" "[I") (by decide +kernel)
  have lk33 := hts (.fieldLink RX3 33 "WhistleTunes$School" "roomMarks" "[I") (by decide +kernel)
  have lk36 := hts (.fieldLink RX3 36 "WhistleTunes$School" "roomUnderstood" "[I") (by decide +kernel)
  have lk39 := hts (.fieldLink RX3 39 "WhistleTunes$School" "roomNoise" "[I") (by decide +kernel)
  have lk42 := hts (.fieldLink RX3 42 "WhistleTunes$School" "latestWhistle" "[I") (by decide +kernel)
  have lk45 := hts (.fieldLink RX3 45 "WhistleTunes$School" "latestStop" "[I") (by decide +kernel)
  have hl : lv_has ls 2 [(0, .ref (q 0)), (1, .ref (qp 0))] := hl
  have hP : va_P G vwCl [(q 0, .inr (3, [.int (S 0 0), .int (S 0 1), .int (S 0 2), .int (S 0 3), .ref (q 5), .ref (q 6), .ref (q 7), .ref (q 8), .ref (q 9), .ref (q 10), .ref (q 11), .ref (q 12), .ref (q 13), .ref (q 14), .ref (q 15), .ref (q 16)])), (q 5, .inl (T 0, 2, .inl (S 5))), (q 6, .inl (T 0, 20, .inl (S 6))), (q 7, .inl (T 0, 160, .inl (S 7))), (q 8, .inl (T 0, 20, .inl (S 8))), (q 9, .inl (T 0, 20, .inl (S 9))), (q 10, .inl (T 0, 20, .inl (S 10))), (q 11, .inl (T 0, 6, .inl (S 11))), (q 12, .inl (T 0, 6, .inl (S 12))), (q 13, .inl (T 0, 6, .inl (S 13))), (q 14, .inl (T 0, 6, .inl (S 14))), (q 15, .inl (T 0, 6, .inl (S 15))), (q 16, .inl (T 0, 2, .inl (S 16))), (qp 0, .inr (3, [.int (P2 0 0), .int (P2 0 1), .int (P2 0 2), .int (P2 0 3), .ref (qp 5), .ref (qp 6), .ref (qp 7), .ref (qp 8), .ref (qp 9), .ref (qp 10), .ref (qp 11), .ref (qp 12), .ref (qp 13), .ref (qp 14), .ref (qp 15), .ref (qp 16)])), (qp 5, .inl (T 0, 2, .inl (P2 5))), (qp 6, .inl (T 0, 20, .inl (P2 6))), (qp 7, .inl (T 0, 160, .inl (P2 7))), (qp 8, .inl (T 0, 20, .inl (P2 8))), (qp 9, .inl (T 0, 20, .inl (P2 9))), (qp 10, .inl (T 0, 20, .inl (P2 10))), (qp 11, .inl (T 0, 6, .inl (P2 11))), (qp 12, .inl (T 0, 6, .inl (P2 12))), (qp 13, .inl (T 0, 6, .inl (P2 13))), (qp 14, .inl (T 0, 6, .inl (P2 14))), (qp 15, .inl (T 0, 6, .inl (P2 15))), (qp 16, .inl (T 0, 2, .inl (P2 16)))] s.heap := hP
  have hD : va_D A [(q 0, .inr (3, [.int (S 0 0), .int (S 0 1), .int (S 0 2), .int (S 0 3), .ref (q 5), .ref (q 6), .ref (q 7), .ref (q 8), .ref (q 9), .ref (q 10), .ref (q 11), .ref (q 12), .ref (q 13), .ref (q 14), .ref (q 15), .ref (q 16)])), (q 5, .inl (T 0, 2, .inl (S 5))), (q 6, .inl (T 0, 20, .inl (S 6))), (q 7, .inl (T 0, 160, .inl (S 7))), (q 8, .inl (T 0, 20, .inl (S 8))), (q 9, .inl (T 0, 20, .inl (S 9))), (q 10, .inl (T 0, 20, .inl (S 10))), (q 11, .inl (T 0, 6, .inl (S 11))), (q 12, .inl (T 0, 6, .inl (S 12))), (q 13, .inl (T 0, 6, .inl (S 13))), (q 14, .inl (T 0, 6, .inl (S 14))), (q 15, .inl (T 0, 6, .inl (S 15))), (q 16, .inl (T 0, 2, .inl (S 16))), (qp 0, .inr (3, [.int (P2 0 0), .int (P2 0 1), .int (P2 0 2), .int (P2 0 3), .ref (qp 5), .ref (qp 6), .ref (qp 7), .ref (qp 8), .ref (qp 9), .ref (qp 10), .ref (qp 11), .ref (qp 12), .ref (qp 13), .ref (qp 14), .ref (qp 15), .ref (qp 16)])), (qp 5, .inl (T 0, 2, .inl (P2 5))), (qp 6, .inl (T 0, 20, .inl (P2 6))), (qp 7, .inl (T 0, 160, .inl (P2 7))), (qp 8, .inl (T 0, 20, .inl (P2 8))), (qp 9, .inl (T 0, 20, .inl (P2 9))), (qp 10, .inl (T 0, 20, .inl (P2 10))), (qp 11, .inl (T 0, 6, .inl (P2 11))), (qp 12, .inl (T 0, 6, .inl (P2 12))), (qp 13, .inl (T 0, 6, .inl (P2 13))), (qp 14, .inl (T 0, 6, .inl (P2 14))), (qp 15, .inl (T 0, 6, .inl (P2 15))), (qp 16, .inl (T 0, 2, .inl (P2 16)))] := hD
  skip
  refine w_h (fun H locs hHe hLe => ?_)
  have hP : va_P G vwCl [(q 0, .inr (3, [.int (S 0 0), .int (S 0 1), .int (S 0 2), .int (S 0 3), .ref (q 5), .ref (q 6), .ref (q 7), .ref (q 8), .ref (q 9), .ref (q 10), .ref (q 11), .ref (q 12), .ref (q 13), .ref (q 14), .ref (q 15), .ref (q 16)])), (q 5, .inl (T 0, 2, .inl (S 5))), (q 6, .inl (T 0, 20, .inl (S 6))), (q 7, .inl (T 0, 160, .inl (S 7))), (q 8, .inl (T 0, 20, .inl (S 8))), (q 9, .inl (T 0, 20, .inl (S 9))), (q 10, .inl (T 0, 20, .inl (S 10))), (q 11, .inl (T 0, 6, .inl (S 11))), (q 12, .inl (T 0, 6, .inl (S 12))), (q 13, .inl (T 0, 6, .inl (S 13))), (q 14, .inl (T 0, 6, .inl (S 14))), (q 15, .inl (T 0, 6, .inl (S 15))), (q 16, .inl (T 0, 2, .inl (S 16))), (qp 0, .inr (3, [.int (P2 0 0), .int (P2 0 1), .int (P2 0 2), .int (P2 0 3), .ref (qp 5), .ref (qp 6), .ref (qp 7), .ref (qp 8), .ref (qp 9), .ref (qp 10), .ref (qp 11), .ref (qp 12), .ref (qp 13), .ref (qp 14), .ref (qp 15), .ref (qp 16)])), (qp 5, .inl (T 0, 2, .inl (P2 5))), (qp 6, .inl (T 0, 20, .inl (P2 6))), (qp 7, .inl (T 0, 160, .inl (P2 7))), (qp 8, .inl (T 0, 20, .inl (P2 8))), (qp 9, .inl (T 0, 20, .inl (P2 9))), (qp 10, .inl (T 0, 20, .inl (P2 10))), (qp 11, .inl (T 0, 6, .inl (P2 11))), (qp 12, .inl (T 0, 6, .inl (P2 12))), (qp 13, .inl (T 0, 6, .inl (P2 13))), (qp 14, .inl (T 0, 6, .inl (P2 14))), (qp 15, .inl (T 0, 6, .inl (P2 15))), (qp 16, .inl (T 0, 2, .inl (P2 16)))] H := by rw [hHe]; exact hP
  have hS : va_S A s.heap H locs := by rw [hHe, hLe]; exact hS
  refine lv_aload_n hx hb dX3_copyFrom_0 rfl (lv_at hl 0 rfl) ?_
  refine lv_aload_n hx hb dX3_copyFrom_1 rfl (lv_at hl 1 rfl) ?_
  refine va_get (D := G) (ci := 3) (v := .int (P2 0 0)) (C := RX3) (T := TX3) (N := 16) hx hb hts hinX3 hown hK hP 13 rfl rfl 0 (by decide) lk48 (fun _ h9 => h9) rfl dX3_copyFrom_2 ?_
  refine va_put (D := G) (ci := 3) (v := .int (P2 0 0)) (ty := .int) (C := RX3) (T := TX3) (N := 16) hx hb hts hinX3 tyX3 tyX3_ok nmX3 hown hK hP hD hS 0 rfl rfl 0 (by decide) lk48 (fun _ h9 => h9) rfl (by decide +kernel) rfl rfl (Nat.le_of_ble_eq_true rfl) dX3_copyFrom_5 (fun H locs hP hD hS => ?_)
  have hP : va_P G vwCl [(q 0, .inr (3, [.int (P2 0 0), .int (S 0 1), .int (S 0 2), .int (S 0 3), .ref (q 5), .ref (q 6), .ref (q 7), .ref (q 8), .ref (q 9), .ref (q 10), .ref (q 11), .ref (q 12), .ref (q 13), .ref (q 14), .ref (q 15), .ref (q 16)])), (q 5, .inl (T 0, 2, .inl (S 5))), (q 6, .inl (T 0, 20, .inl (S 6))), (q 7, .inl (T 0, 160, .inl (S 7))), (q 8, .inl (T 0, 20, .inl (S 8))), (q 9, .inl (T 0, 20, .inl (S 9))), (q 10, .inl (T 0, 20, .inl (S 10))), (q 11, .inl (T 0, 6, .inl (S 11))), (q 12, .inl (T 0, 6, .inl (S 12))), (q 13, .inl (T 0, 6, .inl (S 13))), (q 14, .inl (T 0, 6, .inl (S 14))), (q 15, .inl (T 0, 6, .inl (S 15))), (q 16, .inl (T 0, 2, .inl (S 16))), (qp 0, .inr (3, [.int (P2 0 0), .int (P2 0 1), .int (P2 0 2), .int (P2 0 3), .ref (qp 5), .ref (qp 6), .ref (qp 7), .ref (qp 8), .ref (qp 9), .ref (qp 10), .ref (qp 11), .ref (qp 12), .ref (qp 13), .ref (qp 14), .ref (qp 15), .ref (qp 16)])), (qp 5, .inl (T 0, 2, .inl (P2 5))), (qp 6, .inl (T 0, 20, .inl (P2 6))), (qp 7, .inl (T 0, 160, .inl (P2 7))), (qp 8, .inl (T 0, 20, .inl (P2 8))), (qp 9, .inl (T 0, 20, .inl (P2 9))), (qp 10, .inl (T 0, 20, .inl (P2 10))), (qp 11, .inl (T 0, 6, .inl (P2 11))), (qp 12, .inl (T 0, 6, .inl (P2 12))), (qp 13, .inl (T 0, 6, .inl (P2 13))), (qp 14, .inl (T 0, 6, .inl (P2 14))), (qp 15, .inl (T 0, 6, .inl (P2 15))), (qp 16, .inl (T 0, 2, .inl (P2 16)))] H := hP
  have hD : va_D A [(q 0, .inr (3, [.int (P2 0 0), .int (S 0 1), .int (S 0 2), .int (S 0 3), .ref (q 5), .ref (q 6), .ref (q 7), .ref (q 8), .ref (q 9), .ref (q 10), .ref (q 11), .ref (q 12), .ref (q 13), .ref (q 14), .ref (q 15), .ref (q 16)])), (q 5, .inl (T 0, 2, .inl (S 5))), (q 6, .inl (T 0, 20, .inl (S 6))), (q 7, .inl (T 0, 160, .inl (S 7))), (q 8, .inl (T 0, 20, .inl (S 8))), (q 9, .inl (T 0, 20, .inl (S 9))), (q 10, .inl (T 0, 20, .inl (S 10))), (q 11, .inl (T 0, 6, .inl (S 11))), (q 12, .inl (T 0, 6, .inl (S 12))), (q 13, .inl (T 0, 6, .inl (S 13))), (q 14, .inl (T 0, 6, .inl (S 14))), (q 15, .inl (T 0, 6, .inl (S 15))), (q 16, .inl (T 0, 2, .inl (S 16))), (qp 0, .inr (3, [.int (P2 0 0), .int (P2 0 1), .int (P2 0 2), .int (P2 0 3), .ref (qp 5), .ref (qp 6), .ref (qp 7), .ref (qp 8), .ref (qp 9), .ref (qp 10), .ref (qp 11), .ref (qp 12), .ref (qp 13), .ref (qp 14), .ref (qp 15), .ref (qp 16)])), (qp 5, .inl (T 0, 2, .inl (P2 5))), (qp 6, .inl (T 0, 20, .inl (P2 6))), (qp 7, .inl (T 0, 160, .inl (P2 7))), (qp 8, .inl (T 0, 20, .inl (P2 8))), (qp 9, .inl (T 0, 20, .inl (P2 9))), (qp 10, .inl (T 0, 20, .inl (P2 10))), (qp 11, .inl (T 0, 6, .inl (P2 11))), (qp 12, .inl (T 0, 6, .inl (P2 12))), (qp 13, .inl (T 0, 6, .inl (P2 13))), (qp 14, .inl (T 0, 6, .inl (P2 14))), (qp 15, .inl (T 0, 6, .inl (P2 15))), (qp 16, .inl (T 0, 2, .inl (P2 16)))] := hD
  refine lv_aload_n hx hb dX3_copyFrom_8 rfl (lv_at hl 0 rfl) ?_
  refine lv_aload_n hx hb dX3_copyFrom_9 rfl (lv_at hl 1 rfl) ?_
  refine va_get (D := G) (ci := 3) (v := .int (P2 0 1)) (C := RX3) (T := TX3) (N := 16) hx hb hts hinX3 hown hK hP 13 rfl rfl 1 (by decide) lk52 (fun _ h9 => h9) rfl dX3_copyFrom_10 ?_
  refine va_put (D := G) (ci := 3) (v := .int (P2 0 1)) (ty := .int) (C := RX3) (T := TX3) (N := 16) hx hb hts hinX3 tyX3 tyX3_ok nmX3 hown hK hP hD hS 0 rfl rfl 1 (by decide) lk52 (fun _ h9 => h9) rfl (by decide +kernel) rfl rfl (Nat.le_of_ble_eq_true rfl) dX3_copyFrom_13 (fun H locs hP hD hS => ?_)
  have hP : va_P G vwCl [(q 0, .inr (3, [.int (P2 0 0), .int (P2 0 1), .int (S 0 2), .int (S 0 3), .ref (q 5), .ref (q 6), .ref (q 7), .ref (q 8), .ref (q 9), .ref (q 10), .ref (q 11), .ref (q 12), .ref (q 13), .ref (q 14), .ref (q 15), .ref (q 16)])), (q 5, .inl (T 0, 2, .inl (S 5))), (q 6, .inl (T 0, 20, .inl (S 6))), (q 7, .inl (T 0, 160, .inl (S 7))), (q 8, .inl (T 0, 20, .inl (S 8))), (q 9, .inl (T 0, 20, .inl (S 9))), (q 10, .inl (T 0, 20, .inl (S 10))), (q 11, .inl (T 0, 6, .inl (S 11))), (q 12, .inl (T 0, 6, .inl (S 12))), (q 13, .inl (T 0, 6, .inl (S 13))), (q 14, .inl (T 0, 6, .inl (S 14))), (q 15, .inl (T 0, 6, .inl (S 15))), (q 16, .inl (T 0, 2, .inl (S 16))), (qp 0, .inr (3, [.int (P2 0 0), .int (P2 0 1), .int (P2 0 2), .int (P2 0 3), .ref (qp 5), .ref (qp 6), .ref (qp 7), .ref (qp 8), .ref (qp 9), .ref (qp 10), .ref (qp 11), .ref (qp 12), .ref (qp 13), .ref (qp 14), .ref (qp 15), .ref (qp 16)])), (qp 5, .inl (T 0, 2, .inl (P2 5))), (qp 6, .inl (T 0, 20, .inl (P2 6))), (qp 7, .inl (T 0, 160, .inl (P2 7))), (qp 8, .inl (T 0, 20, .inl (P2 8))), (qp 9, .inl (T 0, 20, .inl (P2 9))), (qp 10, .inl (T 0, 20, .inl (P2 10))), (qp 11, .inl (T 0, 6, .inl (P2 11))), (qp 12, .inl (T 0, 6, .inl (P2 12))), (qp 13, .inl (T 0, 6, .inl (P2 13))), (qp 14, .inl (T 0, 6, .inl (P2 14))), (qp 15, .inl (T 0, 6, .inl (P2 15))), (qp 16, .inl (T 0, 2, .inl (P2 16)))] H := hP
  have hD : va_D A [(q 0, .inr (3, [.int (P2 0 0), .int (P2 0 1), .int (S 0 2), .int (S 0 3), .ref (q 5), .ref (q 6), .ref (q 7), .ref (q 8), .ref (q 9), .ref (q 10), .ref (q 11), .ref (q 12), .ref (q 13), .ref (q 14), .ref (q 15), .ref (q 16)])), (q 5, .inl (T 0, 2, .inl (S 5))), (q 6, .inl (T 0, 20, .inl (S 6))), (q 7, .inl (T 0, 160, .inl (S 7))), (q 8, .inl (T 0, 20, .inl (S 8))), (q 9, .inl (T 0, 20, .inl (S 9))), (q 10, .inl (T 0, 20, .inl (S 10))), (q 11, .inl (T 0, 6, .inl (S 11))), (q 12, .inl (T 0, 6, .inl (S 12))), (q 13, .inl (T 0, 6, .inl (S 13))), (q 14, .inl (T 0, 6, .inl (S 14))), (q 15, .inl (T 0, 6, .inl (S 15))), (q 16, .inl (T 0, 2, .inl (S 16))), (qp 0, .inr (3, [.int (P2 0 0), .int (P2 0 1), .int (P2 0 2), .int (P2 0 3), .ref (qp 5), .ref (qp 6), .ref (qp 7), .ref (qp 8), .ref (qp 9), .ref (qp 10), .ref (qp 11), .ref (qp 12), .ref (qp 13), .ref (qp 14), .ref (qp 15), .ref (qp 16)])), (qp 5, .inl (T 0, 2, .inl (P2 5))), (qp 6, .inl (T 0, 20, .inl (P2 6))), (qp 7, .inl (T 0, 160, .inl (P2 7))), (qp 8, .inl (T 0, 20, .inl (P2 8))), (qp 9, .inl (T 0, 20, .inl (P2 9))), (qp 10, .inl (T 0, 20, .inl (P2 10))), (qp 11, .inl (T 0, 6, .inl (P2 11))), (qp 12, .inl (T 0, 6, .inl (P2 12))), (qp 13, .inl (T 0, 6, .inl (P2 13))), (qp 14, .inl (T 0, 6, .inl (P2 14))), (qp 15, .inl (T 0, 6, .inl (P2 15))), (qp 16, .inl (T 0, 2, .inl (P2 16)))] := hD
  refine lv_aload_n hx hb dX3_copyFrom_16 rfl (lv_at hl 0 rfl) ?_
  refine lv_aload_n hx hb dX3_copyFrom_17 rfl (lv_at hl 1 rfl) ?_
  refine va_get (D := G) (ci := 3) (v := .int (P2 0 2)) (C := RX3) (T := TX3) (N := 16) hx hb hts hinX3 hown hK hP 13 rfl rfl 2 (by decide) lk55 (fun _ h9 => h9) rfl dX3_copyFrom_18 ?_
  refine va_put (D := G) (ci := 3) (v := .int (P2 0 2)) (ty := .int) (C := RX3) (T := TX3) (N := 16) hx hb hts hinX3 tyX3 tyX3_ok nmX3 hown hK hP hD hS 0 rfl rfl 2 (by decide) lk55 (fun _ h9 => h9) rfl (by decide +kernel) rfl rfl (Nat.le_of_ble_eq_true rfl) dX3_copyFrom_21 (fun H locs hP hD hS => ?_)
  have hP : va_P G vwCl [(q 0, .inr (3, [.int (P2 0 0), .int (P2 0 1), .int (P2 0 2), .int (S 0 3), .ref (q 5), .ref (q 6), .ref (q 7), .ref (q 8), .ref (q 9), .ref (q 10), .ref (q 11), .ref (q 12), .ref (q 13), .ref (q 14), .ref (q 15), .ref (q 16)])), (q 5, .inl (T 0, 2, .inl (S 5))), (q 6, .inl (T 0, 20, .inl (S 6))), (q 7, .inl (T 0, 160, .inl (S 7))), (q 8, .inl (T 0, 20, .inl (S 8))), (q 9, .inl (T 0, 20, .inl (S 9))), (q 10, .inl (T 0, 20, .inl (S 10))), (q 11, .inl (T 0, 6, .inl (S 11))), (q 12, .inl (T 0, 6, .inl (S 12))), (q 13, .inl (T 0, 6, .inl (S 13))), (q 14, .inl (T 0, 6, .inl (S 14))), (q 15, .inl (T 0, 6, .inl (S 15))), (q 16, .inl (T 0, 2, .inl (S 16))), (qp 0, .inr (3, [.int (P2 0 0), .int (P2 0 1), .int (P2 0 2), .int (P2 0 3), .ref (qp 5), .ref (qp 6), .ref (qp 7), .ref (qp 8), .ref (qp 9), .ref (qp 10), .ref (qp 11), .ref (qp 12), .ref (qp 13), .ref (qp 14), .ref (qp 15), .ref (qp 16)])), (qp 5, .inl (T 0, 2, .inl (P2 5))), (qp 6, .inl (T 0, 20, .inl (P2 6))), (qp 7, .inl (T 0, 160, .inl (P2 7))), (qp 8, .inl (T 0, 20, .inl (P2 8))), (qp 9, .inl (T 0, 20, .inl (P2 9))), (qp 10, .inl (T 0, 20, .inl (P2 10))), (qp 11, .inl (T 0, 6, .inl (P2 11))), (qp 12, .inl (T 0, 6, .inl (P2 12))), (qp 13, .inl (T 0, 6, .inl (P2 13))), (qp 14, .inl (T 0, 6, .inl (P2 14))), (qp 15, .inl (T 0, 6, .inl (P2 15))), (qp 16, .inl (T 0, 2, .inl (P2 16)))] H := hP
  have hD : va_D A [(q 0, .inr (3, [.int (P2 0 0), .int (P2 0 1), .int (P2 0 2), .int (S 0 3), .ref (q 5), .ref (q 6), .ref (q 7), .ref (q 8), .ref (q 9), .ref (q 10), .ref (q 11), .ref (q 12), .ref (q 13), .ref (q 14), .ref (q 15), .ref (q 16)])), (q 5, .inl (T 0, 2, .inl (S 5))), (q 6, .inl (T 0, 20, .inl (S 6))), (q 7, .inl (T 0, 160, .inl (S 7))), (q 8, .inl (T 0, 20, .inl (S 8))), (q 9, .inl (T 0, 20, .inl (S 9))), (q 10, .inl (T 0, 20, .inl (S 10))), (q 11, .inl (T 0, 6, .inl (S 11))), (q 12, .inl (T 0, 6, .inl (S 12))), (q 13, .inl (T 0, 6, .inl (S 13))), (q 14, .inl (T 0, 6, .inl (S 14))), (q 15, .inl (T 0, 6, .inl (S 15))), (q 16, .inl (T 0, 2, .inl (S 16))), (qp 0, .inr (3, [.int (P2 0 0), .int (P2 0 1), .int (P2 0 2), .int (P2 0 3), .ref (qp 5), .ref (qp 6), .ref (qp 7), .ref (qp 8), .ref (qp 9), .ref (qp 10), .ref (qp 11), .ref (qp 12), .ref (qp 13), .ref (qp 14), .ref (qp 15), .ref (qp 16)])), (qp 5, .inl (T 0, 2, .inl (P2 5))), (qp 6, .inl (T 0, 20, .inl (P2 6))), (qp 7, .inl (T 0, 160, .inl (P2 7))), (qp 8, .inl (T 0, 20, .inl (P2 8))), (qp 9, .inl (T 0, 20, .inl (P2 9))), (qp 10, .inl (T 0, 20, .inl (P2 10))), (qp 11, .inl (T 0, 6, .inl (P2 11))), (qp 12, .inl (T 0, 6, .inl (P2 12))), (qp 13, .inl (T 0, 6, .inl (P2 13))), (qp 14, .inl (T 0, 6, .inl (P2 14))), (qp 15, .inl (T 0, 6, .inl (P2 15))), (qp 16, .inl (T 0, 2, .inl (P2 16)))] := hD
  refine lv_aload_n hx hb dX3_copyFrom_24 rfl (lv_at hl 0 rfl) ?_
  refine lv_aload_n hx hb dX3_copyFrom_25 rfl (lv_at hl 1 rfl) ?_
  refine va_get (D := G) (ci := 3) (v := .int (P2 0 3)) (C := RX3) (T := TX3) (N := 16) hx hb hts hinX3 hown hK hP 13 rfl rfl 3 (by decide) lk58 (fun _ h9 => h9) rfl dX3_copyFrom_26 ?_
  refine va_put (D := G) (ci := 3) (v := .int (P2 0 3)) (ty := .int) (C := RX3) (T := TX3) (N := 16) hx hb hts hinX3 tyX3 tyX3_ok nmX3 hown hK hP hD hS 0 rfl rfl 3 (by decide) lk58 (fun _ h9 => h9) rfl (by decide +kernel) rfl rfl (Nat.le_of_ble_eq_true rfl) dX3_copyFrom_29 (fun H locs hP hD hS => ?_)
  have hP : va_P G vwCl [(q 0, .inr (3, [.int (P2 0 0), .int (P2 0 1), .int (P2 0 2), .int (P2 0 3), .ref (q 5), .ref (q 6), .ref (q 7), .ref (q 8), .ref (q 9), .ref (q 10), .ref (q 11), .ref (q 12), .ref (q 13), .ref (q 14), .ref (q 15), .ref (q 16)])), (q 5, .inl (T 0, 2, .inl (S 5))), (q 6, .inl (T 0, 20, .inl (S 6))), (q 7, .inl (T 0, 160, .inl (S 7))), (q 8, .inl (T 0, 20, .inl (S 8))), (q 9, .inl (T 0, 20, .inl (S 9))), (q 10, .inl (T 0, 20, .inl (S 10))), (q 11, .inl (T 0, 6, .inl (S 11))), (q 12, .inl (T 0, 6, .inl (S 12))), (q 13, .inl (T 0, 6, .inl (S 13))), (q 14, .inl (T 0, 6, .inl (S 14))), (q 15, .inl (T 0, 6, .inl (S 15))), (q 16, .inl (T 0, 2, .inl (S 16))), (qp 0, .inr (3, [.int (P2 0 0), .int (P2 0 1), .int (P2 0 2), .int (P2 0 3), .ref (qp 5), .ref (qp 6), .ref (qp 7), .ref (qp 8), .ref (qp 9), .ref (qp 10), .ref (qp 11), .ref (qp 12), .ref (qp 13), .ref (qp 14), .ref (qp 15), .ref (qp 16)])), (qp 5, .inl (T 0, 2, .inl (P2 5))), (qp 6, .inl (T 0, 20, .inl (P2 6))), (qp 7, .inl (T 0, 160, .inl (P2 7))), (qp 8, .inl (T 0, 20, .inl (P2 8))), (qp 9, .inl (T 0, 20, .inl (P2 9))), (qp 10, .inl (T 0, 20, .inl (P2 10))), (qp 11, .inl (T 0, 6, .inl (P2 11))), (qp 12, .inl (T 0, 6, .inl (P2 12))), (qp 13, .inl (T 0, 6, .inl (P2 13))), (qp 14, .inl (T 0, 6, .inl (P2 14))), (qp 15, .inl (T 0, 6, .inl (P2 15))), (qp 16, .inl (T 0, 2, .inl (P2 16)))] H := hP
  have hD : va_D A [(q 0, .inr (3, [.int (P2 0 0), .int (P2 0 1), .int (P2 0 2), .int (P2 0 3), .ref (q 5), .ref (q 6), .ref (q 7), .ref (q 8), .ref (q 9), .ref (q 10), .ref (q 11), .ref (q 12), .ref (q 13), .ref (q 14), .ref (q 15), .ref (q 16)])), (q 5, .inl (T 0, 2, .inl (S 5))), (q 6, .inl (T 0, 20, .inl (S 6))), (q 7, .inl (T 0, 160, .inl (S 7))), (q 8, .inl (T 0, 20, .inl (S 8))), (q 9, .inl (T 0, 20, .inl (S 9))), (q 10, .inl (T 0, 20, .inl (S 10))), (q 11, .inl (T 0, 6, .inl (S 11))), (q 12, .inl (T 0, 6, .inl (S 12))), (q 13, .inl (T 0, 6, .inl (S 13))), (q 14, .inl (T 0, 6, .inl (S 14))), (q 15, .inl (T 0, 6, .inl (S 15))), (q 16, .inl (T 0, 2, .inl (S 16))), (qp 0, .inr (3, [.int (P2 0 0), .int (P2 0 1), .int (P2 0 2), .int (P2 0 3), .ref (qp 5), .ref (qp 6), .ref (qp 7), .ref (qp 8), .ref (qp 9), .ref (qp 10), .ref (qp 11), .ref (qp 12), .ref (qp 13), .ref (qp 14), .ref (qp 15), .ref (qp 16)])), (qp 5, .inl (T 0, 2, .inl (P2 5))), (qp 6, .inl (T 0, 20, .inl (P2 6))), (qp 7, .inl (T 0, 160, .inl (P2 7))), (qp 8, .inl (T 0, 20, .inl (P2 8))), (qp 9, .inl (T 0, 20, .inl (P2 9))), (qp 10, .inl (T 0, 20, .inl (P2 10))), (qp 11, .inl (T 0, 6, .inl (P2 11))), (qp 12, .inl (T 0, 6, .inl (P2 12))), (qp 13, .inl (T 0, 6, .inl (P2 13))), (qp 14, .inl (T 0, 6, .inl (P2 14))), (qp 15, .inl (T 0, 6, .inl (P2 15))), (qp 16, .inl (T 0, 2, .inl (P2 16)))] := hD
  refine lv_aload_n hx hb dX3_copyFrom_32 rfl (lv_at hl 1 rfl) ?_
  refine va_get (D := G) (ci := 3) (v := .ref (qp 5)) (C := RX3) (T := TX3) (N := 16) hx hb hts hinX3 hown hK hP 13 rfl rfl 4 (by decide) lk9 (fun _ h9 => h9) rfl dX3_copyFrom_33 ?_
  refine n_iconst hx hb 0 dX3_copyFrom_36 (by decide) ?_
  refine lv_aload_n hx hb dX3_copyFrom_37 rfl (lv_at hl 0 rfl) ?_
  refine va_get (D := G) (ci := 3) (v := .ref (q 5)) (C := RX3) (T := TX3) (N := 16) hx hb hts hinX3 hown hK hP 0 rfl rfl 4 (by decide) lk9 (fun _ h9 => h9) rfl dX3_copyFrom_38 ?_
  refine n_iconst hx hb 0 dX3_copyFrom_41 (by decide) ?_
  refine n_iconst hx hb 2 dX3_copyFrom_42 (by decide) ?_
  refine n_copyF (n := 2) hx hb (hml.trans hl.1.symm) hown (hts (.methodLink RX3 61 arraycopyName) (by decide +kernel)) (hts (.native arraycopyName) (by decide +kernel)) (hts (.static arraycopyName) (by decide +kernel)) (hts (.initialized "java/lang/System") (by decide +kernel)) hK hP hD hS 14 1 rfl rfl rfl rfl (by decide) (Nat.le_of_ble_eq_true rfl) (by decide) dX3_copyFrom_43 (fun H locs hP hD hS => ?_)
  have hP : va_P G vwCl [(q 0, .inr (3, [.int (P2 0 0), .int (P2 0 1), .int (P2 0 2), .int (P2 0 3), .ref (q 5), .ref (q 6), .ref (q 7), .ref (q 8), .ref (q 9), .ref (q 10), .ref (q 11), .ref (q 12), .ref (q 13), .ref (q 14), .ref (q 15), .ref (q 16)])), (q 5, .inl (T 0, 2, .inl (P2 5))), (q 6, .inl (T 0, 20, .inl (S 6))), (q 7, .inl (T 0, 160, .inl (S 7))), (q 8, .inl (T 0, 20, .inl (S 8))), (q 9, .inl (T 0, 20, .inl (S 9))), (q 10, .inl (T 0, 20, .inl (S 10))), (q 11, .inl (T 0, 6, .inl (S 11))), (q 12, .inl (T 0, 6, .inl (S 12))), (q 13, .inl (T 0, 6, .inl (S 13))), (q 14, .inl (T 0, 6, .inl (S 14))), (q 15, .inl (T 0, 6, .inl (S 15))), (q 16, .inl (T 0, 2, .inl (S 16))), (qp 0, .inr (3, [.int (P2 0 0), .int (P2 0 1), .int (P2 0 2), .int (P2 0 3), .ref (qp 5), .ref (qp 6), .ref (qp 7), .ref (qp 8), .ref (qp 9), .ref (qp 10), .ref (qp 11), .ref (qp 12), .ref (qp 13), .ref (qp 14), .ref (qp 15), .ref (qp 16)])), (qp 5, .inl (T 0, 2, .inl (P2 5))), (qp 6, .inl (T 0, 20, .inl (P2 6))), (qp 7, .inl (T 0, 160, .inl (P2 7))), (qp 8, .inl (T 0, 20, .inl (P2 8))), (qp 9, .inl (T 0, 20, .inl (P2 9))), (qp 10, .inl (T 0, 20, .inl (P2 10))), (qp 11, .inl (T 0, 6, .inl (P2 11))), (qp 12, .inl (T 0, 6, .inl (P2 12))), (qp 13, .inl (T 0, 6, .inl (P2 13))), (qp 14, .inl (T 0, 6, .inl (P2 14))), (qp 15, .inl (T 0, 6, .inl (P2 15))), (qp 16, .inl (T 0, 2, .inl (P2 16)))] H := hP
  have hD : va_D A [(q 0, .inr (3, [.int (P2 0 0), .int (P2 0 1), .int (P2 0 2), .int (P2 0 3), .ref (q 5), .ref (q 6), .ref (q 7), .ref (q 8), .ref (q 9), .ref (q 10), .ref (q 11), .ref (q 12), .ref (q 13), .ref (q 14), .ref (q 15), .ref (q 16)])), (q 5, .inl (T 0, 2, .inl (P2 5))), (q 6, .inl (T 0, 20, .inl (S 6))), (q 7, .inl (T 0, 160, .inl (S 7))), (q 8, .inl (T 0, 20, .inl (S 8))), (q 9, .inl (T 0, 20, .inl (S 9))), (q 10, .inl (T 0, 20, .inl (S 10))), (q 11, .inl (T 0, 6, .inl (S 11))), (q 12, .inl (T 0, 6, .inl (S 12))), (q 13, .inl (T 0, 6, .inl (S 13))), (q 14, .inl (T 0, 6, .inl (S 14))), (q 15, .inl (T 0, 6, .inl (S 15))), (q 16, .inl (T 0, 2, .inl (S 16))), (qp 0, .inr (3, [.int (P2 0 0), .int (P2 0 1), .int (P2 0 2), .int (P2 0 3), .ref (qp 5), .ref (qp 6), .ref (qp 7), .ref (qp 8), .ref (qp 9), .ref (qp 10), .ref (qp 11), .ref (qp 12), .ref (qp 13), .ref (qp 14), .ref (qp 15), .ref (qp 16)])), (qp 5, .inl (T 0, 2, .inl (P2 5))), (qp 6, .inl (T 0, 20, .inl (P2 6))), (qp 7, .inl (T 0, 160, .inl (P2 7))), (qp 8, .inl (T 0, 20, .inl (P2 8))), (qp 9, .inl (T 0, 20, .inl (P2 9))), (qp 10, .inl (T 0, 20, .inl (P2 10))), (qp 11, .inl (T 0, 6, .inl (P2 11))), (qp 12, .inl (T 0, 6, .inl (P2 12))), (qp 13, .inl (T 0, 6, .inl (P2 13))), (qp 14, .inl (T 0, 6, .inl (P2 14))), (qp 15, .inl (T 0, 6, .inl (P2 15))), (qp 16, .inl (T 0, 2, .inl (P2 16)))] := hD
  refine lv_aload_n hx hb dX3_copyFrom_46 rfl (lv_at hl 1 rfl) ?_
  refine va_get (D := G) (ci := 3) (v := .ref (qp 6)) (C := RX3) (T := TX3) (N := 16) hx hb hts hinX3 hown hK hP 13 rfl rfl 5 (by decide) lk15 (fun _ h9 => h9) rfl dX3_copyFrom_47 ?_
  refine n_iconst hx hb 0 dX3_copyFrom_50 (by decide) ?_
  refine lv_aload_n hx hb dX3_copyFrom_51 rfl (lv_at hl 0 rfl) ?_
  refine va_get (D := G) (ci := 3) (v := .ref (q 6)) (C := RX3) (T := TX3) (N := 16) hx hb hts hinX3 hown hK hP 0 rfl rfl 5 (by decide) lk15 (fun _ h9 => h9) rfl dX3_copyFrom_52 ?_
  refine n_iconst hx hb 0 dX3_copyFrom_55 (by decide) ?_
  refine lv_bipush (v := nI 20) hx hb dX3_copyFrom_56 (by decide) ?_
  refine n_copyF (n := 20) hx hb (hml.trans hl.1.symm) hown (hts (.methodLink RX3 61 arraycopyName) (by decide +kernel)) (hts (.native arraycopyName) (by decide +kernel)) (hts (.static arraycopyName) (by decide +kernel)) (hts (.initialized "java/lang/System") (by decide +kernel)) hK hP hD hS 15 2 rfl rfl rfl rfl (by decide) (Nat.le_of_ble_eq_true rfl) (by decide) dX3_copyFrom_58 (fun H locs hP hD hS => ?_)
  have hP : va_P G vwCl [(q 0, .inr (3, [.int (P2 0 0), .int (P2 0 1), .int (P2 0 2), .int (P2 0 3), .ref (q 5), .ref (q 6), .ref (q 7), .ref (q 8), .ref (q 9), .ref (q 10), .ref (q 11), .ref (q 12), .ref (q 13), .ref (q 14), .ref (q 15), .ref (q 16)])), (q 5, .inl (T 0, 2, .inl (P2 5))), (q 6, .inl (T 0, 20, .inl (P2 6))), (q 7, .inl (T 0, 160, .inl (S 7))), (q 8, .inl (T 0, 20, .inl (S 8))), (q 9, .inl (T 0, 20, .inl (S 9))), (q 10, .inl (T 0, 20, .inl (S 10))), (q 11, .inl (T 0, 6, .inl (S 11))), (q 12, .inl (T 0, 6, .inl (S 12))), (q 13, .inl (T 0, 6, .inl (S 13))), (q 14, .inl (T 0, 6, .inl (S 14))), (q 15, .inl (T 0, 6, .inl (S 15))), (q 16, .inl (T 0, 2, .inl (S 16))), (qp 0, .inr (3, [.int (P2 0 0), .int (P2 0 1), .int (P2 0 2), .int (P2 0 3), .ref (qp 5), .ref (qp 6), .ref (qp 7), .ref (qp 8), .ref (qp 9), .ref (qp 10), .ref (qp 11), .ref (qp 12), .ref (qp 13), .ref (qp 14), .ref (qp 15), .ref (qp 16)])), (qp 5, .inl (T 0, 2, .inl (P2 5))), (qp 6, .inl (T 0, 20, .inl (P2 6))), (qp 7, .inl (T 0, 160, .inl (P2 7))), (qp 8, .inl (T 0, 20, .inl (P2 8))), (qp 9, .inl (T 0, 20, .inl (P2 9))), (qp 10, .inl (T 0, 20, .inl (P2 10))), (qp 11, .inl (T 0, 6, .inl (P2 11))), (qp 12, .inl (T 0, 6, .inl (P2 12))), (qp 13, .inl (T 0, 6, .inl (P2 13))), (qp 14, .inl (T 0, 6, .inl (P2 14))), (qp 15, .inl (T 0, 6, .inl (P2 15))), (qp 16, .inl (T 0, 2, .inl (P2 16)))] H := hP
  have hD : va_D A [(q 0, .inr (3, [.int (P2 0 0), .int (P2 0 1), .int (P2 0 2), .int (P2 0 3), .ref (q 5), .ref (q 6), .ref (q 7), .ref (q 8), .ref (q 9), .ref (q 10), .ref (q 11), .ref (q 12), .ref (q 13), .ref (q 14), .ref (q 15), .ref (q 16)])), (q 5, .inl (T 0, 2, .inl (P2 5))), (q 6, .inl (T 0, 20, .inl (P2 6))), (q 7, .inl (T 0, 160, .inl (S 7))), (q 8, .inl (T 0, 20, .inl (S 8))), (q 9, .inl (T 0, 20, .inl (S 9))), (q 10, .inl (T 0, 20, .inl (S 10))), (q 11, .inl (T 0, 6, .inl (S 11))), (q 12, .inl (T 0, 6, .inl (S 12))), (q 13, .inl (T 0, 6, .inl (S 13))), (q 14, .inl (T 0, 6, .inl (S 14))), (q 15, .inl (T 0, 6, .inl (S 15))), (q 16, .inl (T 0, 2, .inl (S 16))), (qp 0, .inr (3, [.int (P2 0 0), .int (P2 0 1), .int (P2 0 2), .int (P2 0 3), .ref (qp 5), .ref (qp 6), .ref (qp 7), .ref (qp 8), .ref (qp 9), .ref (qp 10), .ref (qp 11), .ref (qp 12), .ref (qp 13), .ref (qp 14), .ref (qp 15), .ref (qp 16)])), (qp 5, .inl (T 0, 2, .inl (P2 5))), (qp 6, .inl (T 0, 20, .inl (P2 6))), (qp 7, .inl (T 0, 160, .inl (P2 7))), (qp 8, .inl (T 0, 20, .inl (P2 8))), (qp 9, .inl (T 0, 20, .inl (P2 9))), (qp 10, .inl (T 0, 20, .inl (P2 10))), (qp 11, .inl (T 0, 6, .inl (P2 11))), (qp 12, .inl (T 0, 6, .inl (P2 12))), (qp 13, .inl (T 0, 6, .inl (P2 13))), (qp 14, .inl (T 0, 6, .inl (P2 14))), (qp 15, .inl (T 0, 6, .inl (P2 15))), (qp 16, .inl (T 0, 2, .inl (P2 16)))] := hD
  refine lv_aload_n hx hb dX3_copyFrom_61 rfl (lv_at hl 1 rfl) ?_
  refine va_get (D := G) (ci := 3) (v := .ref (qp 7)) (C := RX3) (T := TX3) (N := 16) hx hb hts hinX3 hown hK hP 13 rfl rfl 6 (by decide) lk18 (fun _ h9 => h9) rfl dX3_copyFrom_62 ?_
  refine n_iconst hx hb 0 dX3_copyFrom_65 (by decide) ?_
  refine lv_aload_n hx hb dX3_copyFrom_66 rfl (lv_at hl 0 rfl) ?_
  refine va_get (D := G) (ci := 3) (v := .ref (q 7)) (C := RX3) (T := TX3) (N := 16) hx hb hts hinX3 hown hK hP 0 rfl rfl 6 (by decide) lk18 (fun _ h9 => h9) rfl dX3_copyFrom_67 ?_
  refine n_iconst hx hb 0 dX3_copyFrom_70 (by decide) ?_
  refine lv_sipush (v := nI 160) hx hb dX3_copyFrom_71 (by decide) ?_
  refine n_copyF (n := 160) hx hb (hml.trans hl.1.symm) hown (hts (.methodLink RX3 61 arraycopyName) (by decide +kernel)) (hts (.native arraycopyName) (by decide +kernel)) (hts (.static arraycopyName) (by decide +kernel)) (hts (.initialized "java/lang/System") (by decide +kernel)) hK hP hD hS 16 3 rfl rfl rfl rfl (by decide) (Nat.le_of_ble_eq_true rfl) (by decide) dX3_copyFrom_74 (fun H locs hP hD hS => ?_)
  have hP : va_P G vwCl [(q 0, .inr (3, [.int (P2 0 0), .int (P2 0 1), .int (P2 0 2), .int (P2 0 3), .ref (q 5), .ref (q 6), .ref (q 7), .ref (q 8), .ref (q 9), .ref (q 10), .ref (q 11), .ref (q 12), .ref (q 13), .ref (q 14), .ref (q 15), .ref (q 16)])), (q 5, .inl (T 0, 2, .inl (P2 5))), (q 6, .inl (T 0, 20, .inl (P2 6))), (q 7, .inl (T 0, 160, .inl (P2 7))), (q 8, .inl (T 0, 20, .inl (S 8))), (q 9, .inl (T 0, 20, .inl (S 9))), (q 10, .inl (T 0, 20, .inl (S 10))), (q 11, .inl (T 0, 6, .inl (S 11))), (q 12, .inl (T 0, 6, .inl (S 12))), (q 13, .inl (T 0, 6, .inl (S 13))), (q 14, .inl (T 0, 6, .inl (S 14))), (q 15, .inl (T 0, 6, .inl (S 15))), (q 16, .inl (T 0, 2, .inl (S 16))), (qp 0, .inr (3, [.int (P2 0 0), .int (P2 0 1), .int (P2 0 2), .int (P2 0 3), .ref (qp 5), .ref (qp 6), .ref (qp 7), .ref (qp 8), .ref (qp 9), .ref (qp 10), .ref (qp 11), .ref (qp 12), .ref (qp 13), .ref (qp 14), .ref (qp 15), .ref (qp 16)])), (qp 5, .inl (T 0, 2, .inl (P2 5))), (qp 6, .inl (T 0, 20, .inl (P2 6))), (qp 7, .inl (T 0, 160, .inl (P2 7))), (qp 8, .inl (T 0, 20, .inl (P2 8))), (qp 9, .inl (T 0, 20, .inl (P2 9))), (qp 10, .inl (T 0, 20, .inl (P2 10))), (qp 11, .inl (T 0, 6, .inl (P2 11))), (qp 12, .inl (T 0, 6, .inl (P2 12))), (qp 13, .inl (T 0, 6, .inl (P2 13))), (qp 14, .inl (T 0, 6, .inl (P2 14))), (qp 15, .inl (T 0, 6, .inl (P2 15))), (qp 16, .inl (T 0, 2, .inl (P2 16)))] H := hP
  have hD : va_D A [(q 0, .inr (3, [.int (P2 0 0), .int (P2 0 1), .int (P2 0 2), .int (P2 0 3), .ref (q 5), .ref (q 6), .ref (q 7), .ref (q 8), .ref (q 9), .ref (q 10), .ref (q 11), .ref (q 12), .ref (q 13), .ref (q 14), .ref (q 15), .ref (q 16)])), (q 5, .inl (T 0, 2, .inl (P2 5))), (q 6, .inl (T 0, 20, .inl (P2 6))), (q 7, .inl (T 0, 160, .inl (P2 7))), (q 8, .inl (T 0, 20, .inl (S 8))), (q 9, .inl (T 0, 20, .inl (S 9))), (q 10, .inl (T 0, 20, .inl (S 10))), (q 11, .inl (T 0, 6, .inl (S 11))), (q 12, .inl (T 0, 6, .inl (S 12))), (q 13, .inl (T 0, 6, .inl (S 13))), (q 14, .inl (T 0, 6, .inl (S 14))), (q 15, .inl (T 0, 6, .inl (S 15))), (q 16, .inl (T 0, 2, .inl (S 16))), (qp 0, .inr (3, [.int (P2 0 0), .int (P2 0 1), .int (P2 0 2), .int (P2 0 3), .ref (qp 5), .ref (qp 6), .ref (qp 7), .ref (qp 8), .ref (qp 9), .ref (qp 10), .ref (qp 11), .ref (qp 12), .ref (qp 13), .ref (qp 14), .ref (qp 15), .ref (qp 16)])), (qp 5, .inl (T 0, 2, .inl (P2 5))), (qp 6, .inl (T 0, 20, .inl (P2 6))), (qp 7, .inl (T 0, 160, .inl (P2 7))), (qp 8, .inl (T 0, 20, .inl (P2 8))), (qp 9, .inl (T 0, 20, .inl (P2 9))), (qp 10, .inl (T 0, 20, .inl (P2 10))), (qp 11, .inl (T 0, 6, .inl (P2 11))), (qp 12, .inl (T 0, 6, .inl (P2 12))), (qp 13, .inl (T 0, 6, .inl (P2 13))), (qp 14, .inl (T 0, 6, .inl (P2 14))), (qp 15, .inl (T 0, 6, .inl (P2 15))), (qp 16, .inl (T 0, 2, .inl (P2 16)))] := hD
  refine lv_aload_n hx hb dX3_copyFrom_77 rfl (lv_at hl 1 rfl) ?_
  refine va_get (D := G) (ci := 3) (v := .ref (qp 8)) (C := RX3) (T := TX3) (N := 16) hx hb hts hinX3 hown hK hP 13 rfl rfl 7 (by decide) lk21 (fun _ h9 => h9) rfl dX3_copyFrom_78 ?_
  refine n_iconst hx hb 0 dX3_copyFrom_81 (by decide) ?_
  refine lv_aload_n hx hb dX3_copyFrom_82 rfl (lv_at hl 0 rfl) ?_
  refine va_get (D := G) (ci := 3) (v := .ref (q 8)) (C := RX3) (T := TX3) (N := 16) hx hb hts hinX3 hown hK hP 0 rfl rfl 7 (by decide) lk21 (fun _ h9 => h9) rfl dX3_copyFrom_83 ?_
  refine n_iconst hx hb 0 dX3_copyFrom_86 (by decide) ?_
  refine lv_bipush (v := nI 20) hx hb dX3_copyFrom_87 (by decide) ?_
  refine n_copyF (n := 20) hx hb (hml.trans hl.1.symm) hown (hts (.methodLink RX3 61 arraycopyName) (by decide +kernel)) (hts (.native arraycopyName) (by decide +kernel)) (hts (.static arraycopyName) (by decide +kernel)) (hts (.initialized "java/lang/System") (by decide +kernel)) hK hP hD hS 17 4 rfl rfl rfl rfl (by decide) (Nat.le_of_ble_eq_true rfl) (by decide) dX3_copyFrom_89 (fun H locs hP hD hS => ?_)
  have hP : va_P G vwCl [(q 0, .inr (3, [.int (P2 0 0), .int (P2 0 1), .int (P2 0 2), .int (P2 0 3), .ref (q 5), .ref (q 6), .ref (q 7), .ref (q 8), .ref (q 9), .ref (q 10), .ref (q 11), .ref (q 12), .ref (q 13), .ref (q 14), .ref (q 15), .ref (q 16)])), (q 5, .inl (T 0, 2, .inl (P2 5))), (q 6, .inl (T 0, 20, .inl (P2 6))), (q 7, .inl (T 0, 160, .inl (P2 7))), (q 8, .inl (T 0, 20, .inl (P2 8))), (q 9, .inl (T 0, 20, .inl (S 9))), (q 10, .inl (T 0, 20, .inl (S 10))), (q 11, .inl (T 0, 6, .inl (S 11))), (q 12, .inl (T 0, 6, .inl (S 12))), (q 13, .inl (T 0, 6, .inl (S 13))), (q 14, .inl (T 0, 6, .inl (S 14))), (q 15, .inl (T 0, 6, .inl (S 15))), (q 16, .inl (T 0, 2, .inl (S 16))), (qp 0, .inr (3, [.int (P2 0 0), .int (P2 0 1), .int (P2 0 2), .int (P2 0 3), .ref (qp 5), .ref (qp 6), .ref (qp 7), .ref (qp 8), .ref (qp 9), .ref (qp 10), .ref (qp 11), .ref (qp 12), .ref (qp 13), .ref (qp 14), .ref (qp 15), .ref (qp 16)])), (qp 5, .inl (T 0, 2, .inl (P2 5))), (qp 6, .inl (T 0, 20, .inl (P2 6))), (qp 7, .inl (T 0, 160, .inl (P2 7))), (qp 8, .inl (T 0, 20, .inl (P2 8))), (qp 9, .inl (T 0, 20, .inl (P2 9))), (qp 10, .inl (T 0, 20, .inl (P2 10))), (qp 11, .inl (T 0, 6, .inl (P2 11))), (qp 12, .inl (T 0, 6, .inl (P2 12))), (qp 13, .inl (T 0, 6, .inl (P2 13))), (qp 14, .inl (T 0, 6, .inl (P2 14))), (qp 15, .inl (T 0, 6, .inl (P2 15))), (qp 16, .inl (T 0, 2, .inl (P2 16)))] H := hP
  have hD : va_D A [(q 0, .inr (3, [.int (P2 0 0), .int (P2 0 1), .int (P2 0 2), .int (P2 0 3), .ref (q 5), .ref (q 6), .ref (q 7), .ref (q 8), .ref (q 9), .ref (q 10), .ref (q 11), .ref (q 12), .ref (q 13), .ref (q 14), .ref (q 15), .ref (q 16)])), (q 5, .inl (T 0, 2, .inl (P2 5))), (q 6, .inl (T 0, 20, .inl (P2 6))), (q 7, .inl (T 0, 160, .inl (P2 7))), (q 8, .inl (T 0, 20, .inl (P2 8))), (q 9, .inl (T 0, 20, .inl (S 9))), (q 10, .inl (T 0, 20, .inl (S 10))), (q 11, .inl (T 0, 6, .inl (S 11))), (q 12, .inl (T 0, 6, .inl (S 12))), (q 13, .inl (T 0, 6, .inl (S 13))), (q 14, .inl (T 0, 6, .inl (S 14))), (q 15, .inl (T 0, 6, .inl (S 15))), (q 16, .inl (T 0, 2, .inl (S 16))), (qp 0, .inr (3, [.int (P2 0 0), .int (P2 0 1), .int (P2 0 2), .int (P2 0 3), .ref (qp 5), .ref (qp 6), .ref (qp 7), .ref (qp 8), .ref (qp 9), .ref (qp 10), .ref (qp 11), .ref (qp 12), .ref (qp 13), .ref (qp 14), .ref (qp 15), .ref (qp 16)])), (qp 5, .inl (T 0, 2, .inl (P2 5))), (qp 6, .inl (T 0, 20, .inl (P2 6))), (qp 7, .inl (T 0, 160, .inl (P2 7))), (qp 8, .inl (T 0, 20, .inl (P2 8))), (qp 9, .inl (T 0, 20, .inl (P2 9))), (qp 10, .inl (T 0, 20, .inl (P2 10))), (qp 11, .inl (T 0, 6, .inl (P2 11))), (qp 12, .inl (T 0, 6, .inl (P2 12))), (qp 13, .inl (T 0, 6, .inl (P2 13))), (qp 14, .inl (T 0, 6, .inl (P2 14))), (qp 15, .inl (T 0, 6, .inl (P2 15))), (qp 16, .inl (T 0, 2, .inl (P2 16)))] := hD
  refine lv_aload_n hx hb dX3_copyFrom_92 rfl (lv_at hl 1 rfl) ?_
  refine va_get (D := G) (ci := 3) (v := .ref (qp 9)) (C := RX3) (T := TX3) (N := 16) hx hb hts hinX3 hown hK hP 13 rfl rfl 8 (by decide) lk24 (fun _ h9 => h9) rfl dX3_copyFrom_93 ?_
  refine n_iconst hx hb 0 dX3_copyFrom_96 (by decide) ?_
  refine lv_aload_n hx hb dX3_copyFrom_97 rfl (lv_at hl 0 rfl) ?_
  refine va_get (D := G) (ci := 3) (v := .ref (q 9)) (C := RX3) (T := TX3) (N := 16) hx hb hts hinX3 hown hK hP 0 rfl rfl 8 (by decide) lk24 (fun _ h9 => h9) rfl dX3_copyFrom_98 ?_
  refine n_iconst hx hb 0 dX3_copyFrom_101 (by decide) ?_
  refine lv_bipush (v := nI 20) hx hb dX3_copyFrom_102 (by decide) ?_
  refine n_copyF (n := 20) hx hb (hml.trans hl.1.symm) hown (hts (.methodLink RX3 61 arraycopyName) (by decide +kernel)) (hts (.native arraycopyName) (by decide +kernel)) (hts (.static arraycopyName) (by decide +kernel)) (hts (.initialized "java/lang/System") (by decide +kernel)) hK hP hD hS 18 5 rfl rfl rfl rfl (by decide) (Nat.le_of_ble_eq_true rfl) (by decide) dX3_copyFrom_104 (fun H locs hP hD hS => ?_)
  have hP : va_P G vwCl [(q 0, .inr (3, [.int (P2 0 0), .int (P2 0 1), .int (P2 0 2), .int (P2 0 3), .ref (q 5), .ref (q 6), .ref (q 7), .ref (q 8), .ref (q 9), .ref (q 10), .ref (q 11), .ref (q 12), .ref (q 13), .ref (q 14), .ref (q 15), .ref (q 16)])), (q 5, .inl (T 0, 2, .inl (P2 5))), (q 6, .inl (T 0, 20, .inl (P2 6))), (q 7, .inl (T 0, 160, .inl (P2 7))), (q 8, .inl (T 0, 20, .inl (P2 8))), (q 9, .inl (T 0, 20, .inl (P2 9))), (q 10, .inl (T 0, 20, .inl (S 10))), (q 11, .inl (T 0, 6, .inl (S 11))), (q 12, .inl (T 0, 6, .inl (S 12))), (q 13, .inl (T 0, 6, .inl (S 13))), (q 14, .inl (T 0, 6, .inl (S 14))), (q 15, .inl (T 0, 6, .inl (S 15))), (q 16, .inl (T 0, 2, .inl (S 16))), (qp 0, .inr (3, [.int (P2 0 0), .int (P2 0 1), .int (P2 0 2), .int (P2 0 3), .ref (qp 5), .ref (qp 6), .ref (qp 7), .ref (qp 8), .ref (qp 9), .ref (qp 10), .ref (qp 11), .ref (qp 12), .ref (qp 13), .ref (qp 14), .ref (qp 15), .ref (qp 16)])), (qp 5, .inl (T 0, 2, .inl (P2 5))), (qp 6, .inl (T 0, 20, .inl (P2 6))), (qp 7, .inl (T 0, 160, .inl (P2 7))), (qp 8, .inl (T 0, 20, .inl (P2 8))), (qp 9, .inl (T 0, 20, .inl (P2 9))), (qp 10, .inl (T 0, 20, .inl (P2 10))), (qp 11, .inl (T 0, 6, .inl (P2 11))), (qp 12, .inl (T 0, 6, .inl (P2 12))), (qp 13, .inl (T 0, 6, .inl (P2 13))), (qp 14, .inl (T 0, 6, .inl (P2 14))), (qp 15, .inl (T 0, 6, .inl (P2 15))), (qp 16, .inl (T 0, 2, .inl (P2 16)))] H := hP
  have hD : va_D A [(q 0, .inr (3, [.int (P2 0 0), .int (P2 0 1), .int (P2 0 2), .int (P2 0 3), .ref (q 5), .ref (q 6), .ref (q 7), .ref (q 8), .ref (q 9), .ref (q 10), .ref (q 11), .ref (q 12), .ref (q 13), .ref (q 14), .ref (q 15), .ref (q 16)])), (q 5, .inl (T 0, 2, .inl (P2 5))), (q 6, .inl (T 0, 20, .inl (P2 6))), (q 7, .inl (T 0, 160, .inl (P2 7))), (q 8, .inl (T 0, 20, .inl (P2 8))), (q 9, .inl (T 0, 20, .inl (P2 9))), (q 10, .inl (T 0, 20, .inl (S 10))), (q 11, .inl (T 0, 6, .inl (S 11))), (q 12, .inl (T 0, 6, .inl (S 12))), (q 13, .inl (T 0, 6, .inl (S 13))), (q 14, .inl (T 0, 6, .inl (S 14))), (q 15, .inl (T 0, 6, .inl (S 15))), (q 16, .inl (T 0, 2, .inl (S 16))), (qp 0, .inr (3, [.int (P2 0 0), .int (P2 0 1), .int (P2 0 2), .int (P2 0 3), .ref (qp 5), .ref (qp 6), .ref (qp 7), .ref (qp 8), .ref (qp 9), .ref (qp 10), .ref (qp 11), .ref (qp 12), .ref (qp 13), .ref (qp 14), .ref (qp 15), .ref (qp 16)])), (qp 5, .inl (T 0, 2, .inl (P2 5))), (qp 6, .inl (T 0, 20, .inl (P2 6))), (qp 7, .inl (T 0, 160, .inl (P2 7))), (qp 8, .inl (T 0, 20, .inl (P2 8))), (qp 9, .inl (T 0, 20, .inl (P2 9))), (qp 10, .inl (T 0, 20, .inl (P2 10))), (qp 11, .inl (T 0, 6, .inl (P2 11))), (qp 12, .inl (T 0, 6, .inl (P2 12))), (qp 13, .inl (T 0, 6, .inl (P2 13))), (qp 14, .inl (T 0, 6, .inl (P2 14))), (qp 15, .inl (T 0, 6, .inl (P2 15))), (qp 16, .inl (T 0, 2, .inl (P2 16)))] := hD
  refine lv_aload_n hx hb dX3_copyFrom_107 rfl (lv_at hl 1 rfl) ?_
  refine va_get (D := G) (ci := 3) (v := .ref (qp 10)) (C := RX3) (T := TX3) (N := 16) hx hb hts hinX3 hown hK hP 13 rfl rfl 9 (by decide) lk27 (fun _ h9 => h9) rfl dX3_copyFrom_108 ?_
  refine n_iconst hx hb 0 dX3_copyFrom_111 (by decide) ?_
  refine lv_aload_n hx hb dX3_copyFrom_112 rfl (lv_at hl 0 rfl) ?_
  refine va_get (D := G) (ci := 3) (v := .ref (q 10)) (C := RX3) (T := TX3) (N := 16) hx hb hts hinX3 hown hK hP 0 rfl rfl 9 (by decide) lk27 (fun _ h9 => h9) rfl dX3_copyFrom_113 ?_
  refine n_iconst hx hb 0 dX3_copyFrom_116 (by decide) ?_
  refine lv_bipush (v := nI 20) hx hb dX3_copyFrom_117 (by decide) ?_
  refine n_copyF (n := 20) hx hb (hml.trans hl.1.symm) hown (hts (.methodLink RX3 61 arraycopyName) (by decide +kernel)) (hts (.native arraycopyName) (by decide +kernel)) (hts (.static arraycopyName) (by decide +kernel)) (hts (.initialized "java/lang/System") (by decide +kernel)) hK hP hD hS 19 6 rfl rfl rfl rfl (by decide) (Nat.le_of_ble_eq_true rfl) (by decide) dX3_copyFrom_119 (fun H locs hP hD hS => ?_)
  have hP : va_P G vwCl [(q 0, .inr (3, [.int (P2 0 0), .int (P2 0 1), .int (P2 0 2), .int (P2 0 3), .ref (q 5), .ref (q 6), .ref (q 7), .ref (q 8), .ref (q 9), .ref (q 10), .ref (q 11), .ref (q 12), .ref (q 13), .ref (q 14), .ref (q 15), .ref (q 16)])), (q 5, .inl (T 0, 2, .inl (P2 5))), (q 6, .inl (T 0, 20, .inl (P2 6))), (q 7, .inl (T 0, 160, .inl (P2 7))), (q 8, .inl (T 0, 20, .inl (P2 8))), (q 9, .inl (T 0, 20, .inl (P2 9))), (q 10, .inl (T 0, 20, .inl (P2 10))), (q 11, .inl (T 0, 6, .inl (S 11))), (q 12, .inl (T 0, 6, .inl (S 12))), (q 13, .inl (T 0, 6, .inl (S 13))), (q 14, .inl (T 0, 6, .inl (S 14))), (q 15, .inl (T 0, 6, .inl (S 15))), (q 16, .inl (T 0, 2, .inl (S 16))), (qp 0, .inr (3, [.int (P2 0 0), .int (P2 0 1), .int (P2 0 2), .int (P2 0 3), .ref (qp 5), .ref (qp 6), .ref (qp 7), .ref (qp 8), .ref (qp 9), .ref (qp 10), .ref (qp 11), .ref (qp 12), .ref (qp 13), .ref (qp 14), .ref (qp 15), .ref (qp 16)])), (qp 5, .inl (T 0, 2, .inl (P2 5))), (qp 6, .inl (T 0, 20, .inl (P2 6))), (qp 7, .inl (T 0, 160, .inl (P2 7))), (qp 8, .inl (T 0, 20, .inl (P2 8))), (qp 9, .inl (T 0, 20, .inl (P2 9))), (qp 10, .inl (T 0, 20, .inl (P2 10))), (qp 11, .inl (T 0, 6, .inl (P2 11))), (qp 12, .inl (T 0, 6, .inl (P2 12))), (qp 13, .inl (T 0, 6, .inl (P2 13))), (qp 14, .inl (T 0, 6, .inl (P2 14))), (qp 15, .inl (T 0, 6, .inl (P2 15))), (qp 16, .inl (T 0, 2, .inl (P2 16)))] H := hP
  have hD : va_D A [(q 0, .inr (3, [.int (P2 0 0), .int (P2 0 1), .int (P2 0 2), .int (P2 0 3), .ref (q 5), .ref (q 6), .ref (q 7), .ref (q 8), .ref (q 9), .ref (q 10), .ref (q 11), .ref (q 12), .ref (q 13), .ref (q 14), .ref (q 15), .ref (q 16)])), (q 5, .inl (T 0, 2, .inl (P2 5))), (q 6, .inl (T 0, 20, .inl (P2 6))), (q 7, .inl (T 0, 160, .inl (P2 7))), (q 8, .inl (T 0, 20, .inl (P2 8))), (q 9, .inl (T 0, 20, .inl (P2 9))), (q 10, .inl (T 0, 20, .inl (P2 10))), (q 11, .inl (T 0, 6, .inl (S 11))), (q 12, .inl (T 0, 6, .inl (S 12))), (q 13, .inl (T 0, 6, .inl (S 13))), (q 14, .inl (T 0, 6, .inl (S 14))), (q 15, .inl (T 0, 6, .inl (S 15))), (q 16, .inl (T 0, 2, .inl (S 16))), (qp 0, .inr (3, [.int (P2 0 0), .int (P2 0 1), .int (P2 0 2), .int (P2 0 3), .ref (qp 5), .ref (qp 6), .ref (qp 7), .ref (qp 8), .ref (qp 9), .ref (qp 10), .ref (qp 11), .ref (qp 12), .ref (qp 13), .ref (qp 14), .ref (qp 15), .ref (qp 16)])), (qp 5, .inl (T 0, 2, .inl (P2 5))), (qp 6, .inl (T 0, 20, .inl (P2 6))), (qp 7, .inl (T 0, 160, .inl (P2 7))), (qp 8, .inl (T 0, 20, .inl (P2 8))), (qp 9, .inl (T 0, 20, .inl (P2 9))), (qp 10, .inl (T 0, 20, .inl (P2 10))), (qp 11, .inl (T 0, 6, .inl (P2 11))), (qp 12, .inl (T 0, 6, .inl (P2 12))), (qp 13, .inl (T 0, 6, .inl (P2 13))), (qp 14, .inl (T 0, 6, .inl (P2 14))), (qp 15, .inl (T 0, 6, .inl (P2 15))), (qp 16, .inl (T 0, 2, .inl (P2 16)))] := hD
  refine lv_aload_n hx hb dX3_copyFrom_122 rfl (lv_at hl 1 rfl) ?_
  refine va_get (D := G) (ci := 3) (v := .ref (qp 11)) (C := RX3) (T := TX3) (N := 16) hx hb hts hinX3 hown hK hP 13 rfl rfl 10 (by decide) lk30 (fun _ h9 => h9) rfl dX3_copyFrom_123 ?_
  refine n_iconst hx hb 0 dX3_copyFrom_126 (by decide) ?_
  refine lv_aload_n hx hb dX3_copyFrom_127 rfl (lv_at hl 0 rfl) ?_
  refine va_get (D := G) (ci := 3) (v := .ref (q 11)) (C := RX3) (T := TX3) (N := 16) hx hb hts hinX3 hown hK hP 0 rfl rfl 10 (by decide) lk30 (fun _ h9 => h9) rfl dX3_copyFrom_128 ?_
  refine n_iconst hx hb 0 dX3_copyFrom_131 (by decide) ?_
  refine lv_bipush (v := nI 6) hx hb dX3_copyFrom_132 (by decide) ?_
  refine n_copyF (n := 6) hx hb (hml.trans hl.1.symm) hown (hts (.methodLink RX3 61 arraycopyName) (by decide +kernel)) (hts (.native arraycopyName) (by decide +kernel)) (hts (.static arraycopyName) (by decide +kernel)) (hts (.initialized "java/lang/System") (by decide +kernel)) hK hP hD hS 20 7 rfl rfl rfl rfl (by decide) (Nat.le_of_ble_eq_true rfl) (by decide) dX3_copyFrom_134 (fun H locs hP hD hS => ?_)
  have hP : va_P G vwCl [(q 0, .inr (3, [.int (P2 0 0), .int (P2 0 1), .int (P2 0 2), .int (P2 0 3), .ref (q 5), .ref (q 6), .ref (q 7), .ref (q 8), .ref (q 9), .ref (q 10), .ref (q 11), .ref (q 12), .ref (q 13), .ref (q 14), .ref (q 15), .ref (q 16)])), (q 5, .inl (T 0, 2, .inl (P2 5))), (q 6, .inl (T 0, 20, .inl (P2 6))), (q 7, .inl (T 0, 160, .inl (P2 7))), (q 8, .inl (T 0, 20, .inl (P2 8))), (q 9, .inl (T 0, 20, .inl (P2 9))), (q 10, .inl (T 0, 20, .inl (P2 10))), (q 11, .inl (T 0, 6, .inl (P2 11))), (q 12, .inl (T 0, 6, .inl (S 12))), (q 13, .inl (T 0, 6, .inl (S 13))), (q 14, .inl (T 0, 6, .inl (S 14))), (q 15, .inl (T 0, 6, .inl (S 15))), (q 16, .inl (T 0, 2, .inl (S 16))), (qp 0, .inr (3, [.int (P2 0 0), .int (P2 0 1), .int (P2 0 2), .int (P2 0 3), .ref (qp 5), .ref (qp 6), .ref (qp 7), .ref (qp 8), .ref (qp 9), .ref (qp 10), .ref (qp 11), .ref (qp 12), .ref (qp 13), .ref (qp 14), .ref (qp 15), .ref (qp 16)])), (qp 5, .inl (T 0, 2, .inl (P2 5))), (qp 6, .inl (T 0, 20, .inl (P2 6))), (qp 7, .inl (T 0, 160, .inl (P2 7))), (qp 8, .inl (T 0, 20, .inl (P2 8))), (qp 9, .inl (T 0, 20, .inl (P2 9))), (qp 10, .inl (T 0, 20, .inl (P2 10))), (qp 11, .inl (T 0, 6, .inl (P2 11))), (qp 12, .inl (T 0, 6, .inl (P2 12))), (qp 13, .inl (T 0, 6, .inl (P2 13))), (qp 14, .inl (T 0, 6, .inl (P2 14))), (qp 15, .inl (T 0, 6, .inl (P2 15))), (qp 16, .inl (T 0, 2, .inl (P2 16)))] H := hP
  have hD : va_D A [(q 0, .inr (3, [.int (P2 0 0), .int (P2 0 1), .int (P2 0 2), .int (P2 0 3), .ref (q 5), .ref (q 6), .ref (q 7), .ref (q 8), .ref (q 9), .ref (q 10), .ref (q 11), .ref (q 12), .ref (q 13), .ref (q 14), .ref (q 15), .ref (q 16)])), (q 5, .inl (T 0, 2, .inl (P2 5))), (q 6, .inl (T 0, 20, .inl (P2 6))), (q 7, .inl (T 0, 160, .inl (P2 7))), (q 8, .inl (T 0, 20, .inl (P2 8))), (q 9, .inl (T 0, 20, .inl (P2 9))), (q 10, .inl (T 0, 20, .inl (P2 10))), (q 11, .inl (T 0, 6, .inl (P2 11))), (q 12, .inl (T 0, 6, .inl (S 12))), (q 13, .inl (T 0, 6, .inl (S 13))), (q 14, .inl (T 0, 6, .inl (S 14))), (q 15, .inl (T 0, 6, .inl (S 15))), (q 16, .inl (T 0, 2, .inl (S 16))), (qp 0, .inr (3, [.int (P2 0 0), .int (P2 0 1), .int (P2 0 2), .int (P2 0 3), .ref (qp 5), .ref (qp 6), .ref (qp 7), .ref (qp 8), .ref (qp 9), .ref (qp 10), .ref (qp 11), .ref (qp 12), .ref (qp 13), .ref (qp 14), .ref (qp 15), .ref (qp 16)])), (qp 5, .inl (T 0, 2, .inl (P2 5))), (qp 6, .inl (T 0, 20, .inl (P2 6))), (qp 7, .inl (T 0, 160, .inl (P2 7))), (qp 8, .inl (T 0, 20, .inl (P2 8))), (qp 9, .inl (T 0, 20, .inl (P2 9))), (qp 10, .inl (T 0, 20, .inl (P2 10))), (qp 11, .inl (T 0, 6, .inl (P2 11))), (qp 12, .inl (T 0, 6, .inl (P2 12))), (qp 13, .inl (T 0, 6, .inl (P2 13))), (qp 14, .inl (T 0, 6, .inl (P2 14))), (qp 15, .inl (T 0, 6, .inl (P2 15))), (qp 16, .inl (T 0, 2, .inl (P2 16)))] := hD
  refine lv_aload_n hx hb dX3_copyFrom_137 rfl (lv_at hl 1 rfl) ?_
  refine va_get (D := G) (ci := 3) (v := .ref (qp 12)) (C := RX3) (T := TX3) (N := 16) hx hb hts hinX3 hown hK hP 13 rfl rfl 11 (by decide) lk33 (fun _ h9 => h9) rfl dX3_copyFrom_138 ?_
  refine n_iconst hx hb 0 dX3_copyFrom_141 (by decide) ?_
  refine lv_aload_n hx hb dX3_copyFrom_142 rfl (lv_at hl 0 rfl) ?_
  refine va_get (D := G) (ci := 3) (v := .ref (q 12)) (C := RX3) (T := TX3) (N := 16) hx hb hts hinX3 hown hK hP 0 rfl rfl 11 (by decide) lk33 (fun _ h9 => h9) rfl dX3_copyFrom_143 ?_
  refine n_iconst hx hb 0 dX3_copyFrom_146 (by decide) ?_
  refine lv_bipush (v := nI 6) hx hb dX3_copyFrom_147 (by decide) ?_
  refine n_copyF (n := 6) hx hb (hml.trans hl.1.symm) hown (hts (.methodLink RX3 61 arraycopyName) (by decide +kernel)) (hts (.native arraycopyName) (by decide +kernel)) (hts (.static arraycopyName) (by decide +kernel)) (hts (.initialized "java/lang/System") (by decide +kernel)) hK hP hD hS 21 8 rfl rfl rfl rfl (by decide) (Nat.le_of_ble_eq_true rfl) (by decide) dX3_copyFrom_149 (fun H locs hP hD hS => ?_)
  have hP : va_P G vwCl [(q 0, .inr (3, [.int (P2 0 0), .int (P2 0 1), .int (P2 0 2), .int (P2 0 3), .ref (q 5), .ref (q 6), .ref (q 7), .ref (q 8), .ref (q 9), .ref (q 10), .ref (q 11), .ref (q 12), .ref (q 13), .ref (q 14), .ref (q 15), .ref (q 16)])), (q 5, .inl (T 0, 2, .inl (P2 5))), (q 6, .inl (T 0, 20, .inl (P2 6))), (q 7, .inl (T 0, 160, .inl (P2 7))), (q 8, .inl (T 0, 20, .inl (P2 8))), (q 9, .inl (T 0, 20, .inl (P2 9))), (q 10, .inl (T 0, 20, .inl (P2 10))), (q 11, .inl (T 0, 6, .inl (P2 11))), (q 12, .inl (T 0, 6, .inl (P2 12))), (q 13, .inl (T 0, 6, .inl (S 13))), (q 14, .inl (T 0, 6, .inl (S 14))), (q 15, .inl (T 0, 6, .inl (S 15))), (q 16, .inl (T 0, 2, .inl (S 16))), (qp 0, .inr (3, [.int (P2 0 0), .int (P2 0 1), .int (P2 0 2), .int (P2 0 3), .ref (qp 5), .ref (qp 6), .ref (qp 7), .ref (qp 8), .ref (qp 9), .ref (qp 10), .ref (qp 11), .ref (qp 12), .ref (qp 13), .ref (qp 14), .ref (qp 15), .ref (qp 16)])), (qp 5, .inl (T 0, 2, .inl (P2 5))), (qp 6, .inl (T 0, 20, .inl (P2 6))), (qp 7, .inl (T 0, 160, .inl (P2 7))), (qp 8, .inl (T 0, 20, .inl (P2 8))), (qp 9, .inl (T 0, 20, .inl (P2 9))), (qp 10, .inl (T 0, 20, .inl (P2 10))), (qp 11, .inl (T 0, 6, .inl (P2 11))), (qp 12, .inl (T 0, 6, .inl (P2 12))), (qp 13, .inl (T 0, 6, .inl (P2 13))), (qp 14, .inl (T 0, 6, .inl (P2 14))), (qp 15, .inl (T 0, 6, .inl (P2 15))), (qp 16, .inl (T 0, 2, .inl (P2 16)))] H := hP
  have hD : va_D A [(q 0, .inr (3, [.int (P2 0 0), .int (P2 0 1), .int (P2 0 2), .int (P2 0 3), .ref (q 5), .ref (q 6), .ref (q 7), .ref (q 8), .ref (q 9), .ref (q 10), .ref (q 11), .ref (q 12), .ref (q 13), .ref (q 14), .ref (q 15), .ref (q 16)])), (q 5, .inl (T 0, 2, .inl (P2 5))), (q 6, .inl (T 0, 20, .inl (P2 6))), (q 7, .inl (T 0, 160, .inl (P2 7))), (q 8, .inl (T 0, 20, .inl (P2 8))), (q 9, .inl (T 0, 20, .inl (P2 9))), (q 10, .inl (T 0, 20, .inl (P2 10))), (q 11, .inl (T 0, 6, .inl (P2 11))), (q 12, .inl (T 0, 6, .inl (P2 12))), (q 13, .inl (T 0, 6, .inl (S 13))), (q 14, .inl (T 0, 6, .inl (S 14))), (q 15, .inl (T 0, 6, .inl (S 15))), (q 16, .inl (T 0, 2, .inl (S 16))), (qp 0, .inr (3, [.int (P2 0 0), .int (P2 0 1), .int (P2 0 2), .int (P2 0 3), .ref (qp 5), .ref (qp 6), .ref (qp 7), .ref (qp 8), .ref (qp 9), .ref (qp 10), .ref (qp 11), .ref (qp 12), .ref (qp 13), .ref (qp 14), .ref (qp 15), .ref (qp 16)])), (qp 5, .inl (T 0, 2, .inl (P2 5))), (qp 6, .inl (T 0, 20, .inl (P2 6))), (qp 7, .inl (T 0, 160, .inl (P2 7))), (qp 8, .inl (T 0, 20, .inl (P2 8))), (qp 9, .inl (T 0, 20, .inl (P2 9))), (qp 10, .inl (T 0, 20, .inl (P2 10))), (qp 11, .inl (T 0, 6, .inl (P2 11))), (qp 12, .inl (T 0, 6, .inl (P2 12))), (qp 13, .inl (T 0, 6, .inl (P2 13))), (qp 14, .inl (T 0, 6, .inl (P2 14))), (qp 15, .inl (T 0, 6, .inl (P2 15))), (qp 16, .inl (T 0, 2, .inl (P2 16)))] := hD
  refine lv_aload_n hx hb dX3_copyFrom_152 rfl (lv_at hl 1 rfl) ?_
  refine va_get (D := G) (ci := 3) (v := .ref (qp 13)) (C := RX3) (T := TX3) (N := 16) hx hb hts hinX3 hown hK hP 13 rfl rfl 12 (by decide) lk36 (fun _ h9 => h9) rfl dX3_copyFrom_153 ?_
  refine n_iconst hx hb 0 dX3_copyFrom_156 (by decide) ?_
  refine lv_aload_n hx hb dX3_copyFrom_157 rfl (lv_at hl 0 rfl) ?_
  refine va_get (D := G) (ci := 3) (v := .ref (q 13)) (C := RX3) (T := TX3) (N := 16) hx hb hts hinX3 hown hK hP 0 rfl rfl 12 (by decide) lk36 (fun _ h9 => h9) rfl dX3_copyFrom_158 ?_
  refine n_iconst hx hb 0 dX3_copyFrom_161 (by decide) ?_
  refine lv_bipush (v := nI 6) hx hb dX3_copyFrom_162 (by decide) ?_
  refine n_copyF (n := 6) hx hb (hml.trans hl.1.symm) hown (hts (.methodLink RX3 61 arraycopyName) (by decide +kernel)) (hts (.native arraycopyName) (by decide +kernel)) (hts (.static arraycopyName) (by decide +kernel)) (hts (.initialized "java/lang/System") (by decide +kernel)) hK hP hD hS 22 9 rfl rfl rfl rfl (by decide) (Nat.le_of_ble_eq_true rfl) (by decide) dX3_copyFrom_164 (fun H locs hP hD hS => ?_)
  have hP : va_P G vwCl [(q 0, .inr (3, [.int (P2 0 0), .int (P2 0 1), .int (P2 0 2), .int (P2 0 3), .ref (q 5), .ref (q 6), .ref (q 7), .ref (q 8), .ref (q 9), .ref (q 10), .ref (q 11), .ref (q 12), .ref (q 13), .ref (q 14), .ref (q 15), .ref (q 16)])), (q 5, .inl (T 0, 2, .inl (P2 5))), (q 6, .inl (T 0, 20, .inl (P2 6))), (q 7, .inl (T 0, 160, .inl (P2 7))), (q 8, .inl (T 0, 20, .inl (P2 8))), (q 9, .inl (T 0, 20, .inl (P2 9))), (q 10, .inl (T 0, 20, .inl (P2 10))), (q 11, .inl (T 0, 6, .inl (P2 11))), (q 12, .inl (T 0, 6, .inl (P2 12))), (q 13, .inl (T 0, 6, .inl (P2 13))), (q 14, .inl (T 0, 6, .inl (S 14))), (q 15, .inl (T 0, 6, .inl (S 15))), (q 16, .inl (T 0, 2, .inl (S 16))), (qp 0, .inr (3, [.int (P2 0 0), .int (P2 0 1), .int (P2 0 2), .int (P2 0 3), .ref (qp 5), .ref (qp 6), .ref (qp 7), .ref (qp 8), .ref (qp 9), .ref (qp 10), .ref (qp 11), .ref (qp 12), .ref (qp 13), .ref (qp 14), .ref (qp 15), .ref (qp 16)])), (qp 5, .inl (T 0, 2, .inl (P2 5))), (qp 6, .inl (T 0, 20, .inl (P2 6))), (qp 7, .inl (T 0, 160, .inl (P2 7))), (qp 8, .inl (T 0, 20, .inl (P2 8))), (qp 9, .inl (T 0, 20, .inl (P2 9))), (qp 10, .inl (T 0, 20, .inl (P2 10))), (qp 11, .inl (T 0, 6, .inl (P2 11))), (qp 12, .inl (T 0, 6, .inl (P2 12))), (qp 13, .inl (T 0, 6, .inl (P2 13))), (qp 14, .inl (T 0, 6, .inl (P2 14))), (qp 15, .inl (T 0, 6, .inl (P2 15))), (qp 16, .inl (T 0, 2, .inl (P2 16)))] H := hP
  have hD : va_D A [(q 0, .inr (3, [.int (P2 0 0), .int (P2 0 1), .int (P2 0 2), .int (P2 0 3), .ref (q 5), .ref (q 6), .ref (q 7), .ref (q 8), .ref (q 9), .ref (q 10), .ref (q 11), .ref (q 12), .ref (q 13), .ref (q 14), .ref (q 15), .ref (q 16)])), (q 5, .inl (T 0, 2, .inl (P2 5))), (q 6, .inl (T 0, 20, .inl (P2 6))), (q 7, .inl (T 0, 160, .inl (P2 7))), (q 8, .inl (T 0, 20, .inl (P2 8))), (q 9, .inl (T 0, 20, .inl (P2 9))), (q 10, .inl (T 0, 20, .inl (P2 10))), (q 11, .inl (T 0, 6, .inl (P2 11))), (q 12, .inl (T 0, 6, .inl (P2 12))), (q 13, .inl (T 0, 6, .inl (P2 13))), (q 14, .inl (T 0, 6, .inl (S 14))), (q 15, .inl (T 0, 6, .inl (S 15))), (q 16, .inl (T 0, 2, .inl (S 16))), (qp 0, .inr (3, [.int (P2 0 0), .int (P2 0 1), .int (P2 0 2), .int (P2 0 3), .ref (qp 5), .ref (qp 6), .ref (qp 7), .ref (qp 8), .ref (qp 9), .ref (qp 10), .ref (qp 11), .ref (qp 12), .ref (qp 13), .ref (qp 14), .ref (qp 15), .ref (qp 16)])), (qp 5, .inl (T 0, 2, .inl (P2 5))), (qp 6, .inl (T 0, 20, .inl (P2 6))), (qp 7, .inl (T 0, 160, .inl (P2 7))), (qp 8, .inl (T 0, 20, .inl (P2 8))), (qp 9, .inl (T 0, 20, .inl (P2 9))), (qp 10, .inl (T 0, 20, .inl (P2 10))), (qp 11, .inl (T 0, 6, .inl (P2 11))), (qp 12, .inl (T 0, 6, .inl (P2 12))), (qp 13, .inl (T 0, 6, .inl (P2 13))), (qp 14, .inl (T 0, 6, .inl (P2 14))), (qp 15, .inl (T 0, 6, .inl (P2 15))), (qp 16, .inl (T 0, 2, .inl (P2 16)))] := hD
  refine lv_aload_n hx hb dX3_copyFrom_167 rfl (lv_at hl 1 rfl) ?_
  refine va_get (D := G) (ci := 3) (v := .ref (qp 14)) (C := RX3) (T := TX3) (N := 16) hx hb hts hinX3 hown hK hP 13 rfl rfl 13 (by decide) lk39 (fun _ h9 => h9) rfl dX3_copyFrom_168 ?_
  refine n_iconst hx hb 0 dX3_copyFrom_171 (by decide) ?_
  refine lv_aload_n hx hb dX3_copyFrom_172 rfl (lv_at hl 0 rfl) ?_
  refine va_get (D := G) (ci := 3) (v := .ref (q 14)) (C := RX3) (T := TX3) (N := 16) hx hb hts hinX3 hown hK hP 0 rfl rfl 13 (by decide) lk39 (fun _ h9 => h9) rfl dX3_copyFrom_173 ?_
  refine n_iconst hx hb 0 dX3_copyFrom_176 (by decide) ?_
  refine lv_bipush (v := nI 6) hx hb dX3_copyFrom_177 (by decide) ?_
  refine n_copyF (n := 6) hx hb (hml.trans hl.1.symm) hown (hts (.methodLink RX3 61 arraycopyName) (by decide +kernel)) (hts (.native arraycopyName) (by decide +kernel)) (hts (.static arraycopyName) (by decide +kernel)) (hts (.initialized "java/lang/System") (by decide +kernel)) hK hP hD hS 23 10 rfl rfl rfl rfl (by decide) (Nat.le_of_ble_eq_true rfl) (by decide) dX3_copyFrom_179 (fun H locs hP hD hS => ?_)
  have hP : va_P G vwCl [(q 0, .inr (3, [.int (P2 0 0), .int (P2 0 1), .int (P2 0 2), .int (P2 0 3), .ref (q 5), .ref (q 6), .ref (q 7), .ref (q 8), .ref (q 9), .ref (q 10), .ref (q 11), .ref (q 12), .ref (q 13), .ref (q 14), .ref (q 15), .ref (q 16)])), (q 5, .inl (T 0, 2, .inl (P2 5))), (q 6, .inl (T 0, 20, .inl (P2 6))), (q 7, .inl (T 0, 160, .inl (P2 7))), (q 8, .inl (T 0, 20, .inl (P2 8))), (q 9, .inl (T 0, 20, .inl (P2 9))), (q 10, .inl (T 0, 20, .inl (P2 10))), (q 11, .inl (T 0, 6, .inl (P2 11))), (q 12, .inl (T 0, 6, .inl (P2 12))), (q 13, .inl (T 0, 6, .inl (P2 13))), (q 14, .inl (T 0, 6, .inl (P2 14))), (q 15, .inl (T 0, 6, .inl (S 15))), (q 16, .inl (T 0, 2, .inl (S 16))), (qp 0, .inr (3, [.int (P2 0 0), .int (P2 0 1), .int (P2 0 2), .int (P2 0 3), .ref (qp 5), .ref (qp 6), .ref (qp 7), .ref (qp 8), .ref (qp 9), .ref (qp 10), .ref (qp 11), .ref (qp 12), .ref (qp 13), .ref (qp 14), .ref (qp 15), .ref (qp 16)])), (qp 5, .inl (T 0, 2, .inl (P2 5))), (qp 6, .inl (T 0, 20, .inl (P2 6))), (qp 7, .inl (T 0, 160, .inl (P2 7))), (qp 8, .inl (T 0, 20, .inl (P2 8))), (qp 9, .inl (T 0, 20, .inl (P2 9))), (qp 10, .inl (T 0, 20, .inl (P2 10))), (qp 11, .inl (T 0, 6, .inl (P2 11))), (qp 12, .inl (T 0, 6, .inl (P2 12))), (qp 13, .inl (T 0, 6, .inl (P2 13))), (qp 14, .inl (T 0, 6, .inl (P2 14))), (qp 15, .inl (T 0, 6, .inl (P2 15))), (qp 16, .inl (T 0, 2, .inl (P2 16)))] H := hP
  have hD : va_D A [(q 0, .inr (3, [.int (P2 0 0), .int (P2 0 1), .int (P2 0 2), .int (P2 0 3), .ref (q 5), .ref (q 6), .ref (q 7), .ref (q 8), .ref (q 9), .ref (q 10), .ref (q 11), .ref (q 12), .ref (q 13), .ref (q 14), .ref (q 15), .ref (q 16)])), (q 5, .inl (T 0, 2, .inl (P2 5))), (q 6, .inl (T 0, 20, .inl (P2 6))), (q 7, .inl (T 0, 160, .inl (P2 7))), (q 8, .inl (T 0, 20, .inl (P2 8))), (q 9, .inl (T 0, 20, .inl (P2 9))), (q 10, .inl (T 0, 20, .inl (P2 10))), (q 11, .inl (T 0, 6, .inl (P2 11))), (q 12, .inl (T 0, 6, .inl (P2 12))), (q 13, .inl (T 0, 6, .inl (P2 13))), (q 14, .inl (T 0, 6, .inl (P2 14))), (q 15, .inl (T 0, 6, .inl (S 15))), (q 16, .inl (T 0, 2, .inl (S 16))), (qp 0, .inr (3, [.int (P2 0 0), .int (P2 0 1), .int (P2 0 2), .int (P2 0 3), .ref (qp 5), .ref (qp 6), .ref (qp 7), .ref (qp 8), .ref (qp 9), .ref (qp 10), .ref (qp 11), .ref (qp 12), .ref (qp 13), .ref (qp 14), .ref (qp 15), .ref (qp 16)])), (qp 5, .inl (T 0, 2, .inl (P2 5))), (qp 6, .inl (T 0, 20, .inl (P2 6))), (qp 7, .inl (T 0, 160, .inl (P2 7))), (qp 8, .inl (T 0, 20, .inl (P2 8))), (qp 9, .inl (T 0, 20, .inl (P2 9))), (qp 10, .inl (T 0, 20, .inl (P2 10))), (qp 11, .inl (T 0, 6, .inl (P2 11))), (qp 12, .inl (T 0, 6, .inl (P2 12))), (qp 13, .inl (T 0, 6, .inl (P2 13))), (qp 14, .inl (T 0, 6, .inl (P2 14))), (qp 15, .inl (T 0, 6, .inl (P2 15))), (qp 16, .inl (T 0, 2, .inl (P2 16)))] := hD
  refine lv_aload_n hx hb dX3_copyFrom_182 rfl (lv_at hl 1 rfl) ?_
  refine va_get (D := G) (ci := 3) (v := .ref (qp 15)) (C := RX3) (T := TX3) (N := 16) hx hb hts hinX3 hown hK hP 13 rfl rfl 14 (by decide) lk42 (fun _ h9 => h9) rfl dX3_copyFrom_183 ?_
  refine n_iconst hx hb 0 dX3_copyFrom_186 (by decide) ?_
  refine lv_aload_n hx hb dX3_copyFrom_187 rfl (lv_at hl 0 rfl) ?_
  refine va_get (D := G) (ci := 3) (v := .ref (q 15)) (C := RX3) (T := TX3) (N := 16) hx hb hts hinX3 hown hK hP 0 rfl rfl 14 (by decide) lk42 (fun _ h9 => h9) rfl dX3_copyFrom_188 ?_
  refine n_iconst hx hb 0 dX3_copyFrom_191 (by decide) ?_
  refine lv_bipush (v := nI 6) hx hb dX3_copyFrom_192 (by decide) ?_
  refine n_copyF (n := 6) hx hb (hml.trans hl.1.symm) hown (hts (.methodLink RX3 61 arraycopyName) (by decide +kernel)) (hts (.native arraycopyName) (by decide +kernel)) (hts (.static arraycopyName) (by decide +kernel)) (hts (.initialized "java/lang/System") (by decide +kernel)) hK hP hD hS 24 11 rfl rfl rfl rfl (by decide) (Nat.le_of_ble_eq_true rfl) (by decide) dX3_copyFrom_194 (fun H locs hP hD hS => ?_)
  have hP : va_P G vwCl [(q 0, .inr (3, [.int (P2 0 0), .int (P2 0 1), .int (P2 0 2), .int (P2 0 3), .ref (q 5), .ref (q 6), .ref (q 7), .ref (q 8), .ref (q 9), .ref (q 10), .ref (q 11), .ref (q 12), .ref (q 13), .ref (q 14), .ref (q 15), .ref (q 16)])), (q 5, .inl (T 0, 2, .inl (P2 5))), (q 6, .inl (T 0, 20, .inl (P2 6))), (q 7, .inl (T 0, 160, .inl (P2 7))), (q 8, .inl (T 0, 20, .inl (P2 8))), (q 9, .inl (T 0, 20, .inl (P2 9))), (q 10, .inl (T 0, 20, .inl (P2 10))), (q 11, .inl (T 0, 6, .inl (P2 11))), (q 12, .inl (T 0, 6, .inl (P2 12))), (q 13, .inl (T 0, 6, .inl (P2 13))), (q 14, .inl (T 0, 6, .inl (P2 14))), (q 15, .inl (T 0, 6, .inl (P2 15))), (q 16, .inl (T 0, 2, .inl (S 16))), (qp 0, .inr (3, [.int (P2 0 0), .int (P2 0 1), .int (P2 0 2), .int (P2 0 3), .ref (qp 5), .ref (qp 6), .ref (qp 7), .ref (qp 8), .ref (qp 9), .ref (qp 10), .ref (qp 11), .ref (qp 12), .ref (qp 13), .ref (qp 14), .ref (qp 15), .ref (qp 16)])), (qp 5, .inl (T 0, 2, .inl (P2 5))), (qp 6, .inl (T 0, 20, .inl (P2 6))), (qp 7, .inl (T 0, 160, .inl (P2 7))), (qp 8, .inl (T 0, 20, .inl (P2 8))), (qp 9, .inl (T 0, 20, .inl (P2 9))), (qp 10, .inl (T 0, 20, .inl (P2 10))), (qp 11, .inl (T 0, 6, .inl (P2 11))), (qp 12, .inl (T 0, 6, .inl (P2 12))), (qp 13, .inl (T 0, 6, .inl (P2 13))), (qp 14, .inl (T 0, 6, .inl (P2 14))), (qp 15, .inl (T 0, 6, .inl (P2 15))), (qp 16, .inl (T 0, 2, .inl (P2 16)))] H := hP
  have hD : va_D A [(q 0, .inr (3, [.int (P2 0 0), .int (P2 0 1), .int (P2 0 2), .int (P2 0 3), .ref (q 5), .ref (q 6), .ref (q 7), .ref (q 8), .ref (q 9), .ref (q 10), .ref (q 11), .ref (q 12), .ref (q 13), .ref (q 14), .ref (q 15), .ref (q 16)])), (q 5, .inl (T 0, 2, .inl (P2 5))), (q 6, .inl (T 0, 20, .inl (P2 6))), (q 7, .inl (T 0, 160, .inl (P2 7))), (q 8, .inl (T 0, 20, .inl (P2 8))), (q 9, .inl (T 0, 20, .inl (P2 9))), (q 10, .inl (T 0, 20, .inl (P2 10))), (q 11, .inl (T 0, 6, .inl (P2 11))), (q 12, .inl (T 0, 6, .inl (P2 12))), (q 13, .inl (T 0, 6, .inl (P2 13))), (q 14, .inl (T 0, 6, .inl (P2 14))), (q 15, .inl (T 0, 6, .inl (P2 15))), (q 16, .inl (T 0, 2, .inl (S 16))), (qp 0, .inr (3, [.int (P2 0 0), .int (P2 0 1), .int (P2 0 2), .int (P2 0 3), .ref (qp 5), .ref (qp 6), .ref (qp 7), .ref (qp 8), .ref (qp 9), .ref (qp 10), .ref (qp 11), .ref (qp 12), .ref (qp 13), .ref (qp 14), .ref (qp 15), .ref (qp 16)])), (qp 5, .inl (T 0, 2, .inl (P2 5))), (qp 6, .inl (T 0, 20, .inl (P2 6))), (qp 7, .inl (T 0, 160, .inl (P2 7))), (qp 8, .inl (T 0, 20, .inl (P2 8))), (qp 9, .inl (T 0, 20, .inl (P2 9))), (qp 10, .inl (T 0, 20, .inl (P2 10))), (qp 11, .inl (T 0, 6, .inl (P2 11))), (qp 12, .inl (T 0, 6, .inl (P2 12))), (qp 13, .inl (T 0, 6, .inl (P2 13))), (qp 14, .inl (T 0, 6, .inl (P2 14))), (qp 15, .inl (T 0, 6, .inl (P2 15))), (qp 16, .inl (T 0, 2, .inl (P2 16)))] := hD
  refine lv_aload_n hx hb dX3_copyFrom_197 rfl (lv_at hl 1 rfl) ?_
  refine va_get (D := G) (ci := 3) (v := .ref (qp 16)) (C := RX3) (T := TX3) (N := 16) hx hb hts hinX3 hown hK hP 13 rfl rfl 15 (by decide) lk45 (fun _ h9 => h9) rfl dX3_copyFrom_198 ?_
  refine n_iconst hx hb 0 dX3_copyFrom_201 (by decide) ?_
  refine lv_aload_n hx hb dX3_copyFrom_202 rfl (lv_at hl 0 rfl) ?_
  refine va_get (D := G) (ci := 3) (v := .ref (q 16)) (C := RX3) (T := TX3) (N := 16) hx hb hts hinX3 hown hK hP 0 rfl rfl 15 (by decide) lk45 (fun _ h9 => h9) rfl dX3_copyFrom_203 ?_
  refine n_iconst hx hb 0 dX3_copyFrom_206 (by decide) ?_
  refine n_iconst hx hb 2 dX3_copyFrom_207 (by decide) ?_
  refine n_copyF (n := 2) hx hb (hml.trans hl.1.symm) hown (hts (.methodLink RX3 61 arraycopyName) (by decide +kernel)) (hts (.native arraycopyName) (by decide +kernel)) (hts (.static arraycopyName) (by decide +kernel)) (hts (.initialized "java/lang/System") (by decide +kernel)) hK hP hD hS 25 12 rfl rfl rfl rfl (by decide) (Nat.le_of_ble_eq_true rfl) (by decide) dX3_copyFrom_208 (fun H locs hP hD hS => ?_)
  have hP : va_P G vwCl [(q 0, .inr (3, [.int (P2 0 0), .int (P2 0 1), .int (P2 0 2), .int (P2 0 3), .ref (q 5), .ref (q 6), .ref (q 7), .ref (q 8), .ref (q 9), .ref (q 10), .ref (q 11), .ref (q 12), .ref (q 13), .ref (q 14), .ref (q 15), .ref (q 16)])), (q 5, .inl (T 0, 2, .inl (P2 5))), (q 6, .inl (T 0, 20, .inl (P2 6))), (q 7, .inl (T 0, 160, .inl (P2 7))), (q 8, .inl (T 0, 20, .inl (P2 8))), (q 9, .inl (T 0, 20, .inl (P2 9))), (q 10, .inl (T 0, 20, .inl (P2 10))), (q 11, .inl (T 0, 6, .inl (P2 11))), (q 12, .inl (T 0, 6, .inl (P2 12))), (q 13, .inl (T 0, 6, .inl (P2 13))), (q 14, .inl (T 0, 6, .inl (P2 14))), (q 15, .inl (T 0, 6, .inl (P2 15))), (q 16, .inl (T 0, 2, .inl (P2 16))), (qp 0, .inr (3, [.int (P2 0 0), .int (P2 0 1), .int (P2 0 2), .int (P2 0 3), .ref (qp 5), .ref (qp 6), .ref (qp 7), .ref (qp 8), .ref (qp 9), .ref (qp 10), .ref (qp 11), .ref (qp 12), .ref (qp 13), .ref (qp 14), .ref (qp 15), .ref (qp 16)])), (qp 5, .inl (T 0, 2, .inl (P2 5))), (qp 6, .inl (T 0, 20, .inl (P2 6))), (qp 7, .inl (T 0, 160, .inl (P2 7))), (qp 8, .inl (T 0, 20, .inl (P2 8))), (qp 9, .inl (T 0, 20, .inl (P2 9))), (qp 10, .inl (T 0, 20, .inl (P2 10))), (qp 11, .inl (T 0, 6, .inl (P2 11))), (qp 12, .inl (T 0, 6, .inl (P2 12))), (qp 13, .inl (T 0, 6, .inl (P2 13))), (qp 14, .inl (T 0, 6, .inl (P2 14))), (qp 15, .inl (T 0, 6, .inl (P2 15))), (qp 16, .inl (T 0, 2, .inl (P2 16)))] H := hP
  have hD : va_D A [(q 0, .inr (3, [.int (P2 0 0), .int (P2 0 1), .int (P2 0 2), .int (P2 0 3), .ref (q 5), .ref (q 6), .ref (q 7), .ref (q 8), .ref (q 9), .ref (q 10), .ref (q 11), .ref (q 12), .ref (q 13), .ref (q 14), .ref (q 15), .ref (q 16)])), (q 5, .inl (T 0, 2, .inl (P2 5))), (q 6, .inl (T 0, 20, .inl (P2 6))), (q 7, .inl (T 0, 160, .inl (P2 7))), (q 8, .inl (T 0, 20, .inl (P2 8))), (q 9, .inl (T 0, 20, .inl (P2 9))), (q 10, .inl (T 0, 20, .inl (P2 10))), (q 11, .inl (T 0, 6, .inl (P2 11))), (q 12, .inl (T 0, 6, .inl (P2 12))), (q 13, .inl (T 0, 6, .inl (P2 13))), (q 14, .inl (T 0, 6, .inl (P2 14))), (q 15, .inl (T 0, 6, .inl (P2 15))), (q 16, .inl (T 0, 2, .inl (P2 16))), (qp 0, .inr (3, [.int (P2 0 0), .int (P2 0 1), .int (P2 0 2), .int (P2 0 3), .ref (qp 5), .ref (qp 6), .ref (qp 7), .ref (qp 8), .ref (qp 9), .ref (qp 10), .ref (qp 11), .ref (qp 12), .ref (qp 13), .ref (qp 14), .ref (qp 15), .ref (qp 16)])), (qp 5, .inl (T 0, 2, .inl (P2 5))), (qp 6, .inl (T 0, 20, .inl (P2 6))), (qp 7, .inl (T 0, 160, .inl (P2 7))), (qp 8, .inl (T 0, 20, .inl (P2 8))), (qp 9, .inl (T 0, 20, .inl (P2 9))), (qp 10, .inl (T 0, 20, .inl (P2 10))), (qp 11, .inl (T 0, 6, .inl (P2 11))), (qp 12, .inl (T 0, 6, .inl (P2 12))), (qp 13, .inl (T 0, 6, .inl (P2 13))), (qp 14, .inl (T 0, 6, .inl (P2 14))), (qp 15, .inl (T 0, 6, .inl (P2 15))), (qp 16, .inl (T 0, 2, .inl (P2 16)))] := hD
  subst hQ
  have hP9 : va_P G vwCl (oX3 T q P2 ++ oX3 T qp P2) H := hP
  have hD9 : va_D A (oX3 T q P2 ++ oX3 T qp P2) := hD
  exact e_rwv hx hb hr hlocks hS hP9 hD9 dX3_copyFrom_211
set_option maxHeartbeats 4000000 in
set_option maxRecDepth 100000 in
theorem c_X3_beginNight (l : Launch) (G : va_G) (T : Nat → ClassId) (sz : Nat) (q : Nat → Nat) (S : Nat → Nat → Int32) : RWv l yX3_beginNight wsX3_beginNight 0 0 0 G T sz (oX3 T q S) [.ref (q 0)] (oX3 T q (sa (sc (sc S 0 (S 0 0 + nI 1)) 3 (nI 0)) 12 (pBM (S 0 0 + nI 1) (S 12)))) := by
  refine Met.ofW (cc := cX3_beginNight) (maxL := 2) (ret := none) (by decide) rfl ?_
  intro p e s m args below meth c s₁ B hml hv
  obtain ⟨ha, hsz, hP, hK, hD0, hE0⟩ := hv
  have hx := B.exec
  have hb := B.bytes
  have hr := B.returns
  have hlocks := B.notSynchronized
  have hts := atoms_spec (ws := wsX3_beginNight) B.pre
  have hown : s.vm.findClass RX3 = some m.cls := findClass_of_methodNamed B.named
  have cx : CallFix p m c cX3_beginNight 2 s args wsX3_beginNight RX3 := ⟨hx, hb, hml, hown, hts⟩
  subst hsz
  have hD := hD0.self (sz := s.heap.size)
  generalize hAe : va_A (oX3 T q S) s.heap.size = A at hD hE0 ⊢
  have hE : gE A s s.heap := hE0
  have hA : ∀ q : Nat, s.heap.size ≤ q → A q := fun q h => by rw [← hAe]; exact Or.inr h
  have hS : va_S A s.heap s.heap [] := va_S.rf
  refine w_entry ha (Nat.le_of_ble_eq_true rfl) (fun ls hl => ?_)
  refine w_q (fun Q0 hQ => ?_)
  have lk48 := hts (.fieldLink RX3 48 "WhistleTunes$School" "night" "I") (by decide +kernel)
  have hinX3 : ∀ w ∈ wsX30, w ∈ wsX3_beginNight := by decide +kernel
  have lk58 := hts (.fieldLink RX3 58 "WhistleTunes$School" "raisedRooms" "I") (by decide +kernel)
  have lk33 := hts (.fieldLink RX3 33 "WhistleTunes$School" "roomMarks" "[I") (by decide +kernel)
  have hl : lv_has ls 2 [(0, .ref (q 0))] := hl
  have hP : va_P G vwCl [(q 0, .inr (3, [.int (S 0 0), .int (S 0 1), .int (S 0 2), .int (S 0 3), .ref (q 5), .ref (q 6), .ref (q 7), .ref (q 8), .ref (q 9), .ref (q 10), .ref (q 11), .ref (q 12), .ref (q 13), .ref (q 14), .ref (q 15), .ref (q 16)])), (q 5, .inl (T 0, 2, .inl (S 5))), (q 6, .inl (T 0, 20, .inl (S 6))), (q 7, .inl (T 0, 160, .inl (S 7))), (q 8, .inl (T 0, 20, .inl (S 8))), (q 9, .inl (T 0, 20, .inl (S 9))), (q 10, .inl (T 0, 20, .inl (S 10))), (q 11, .inl (T 0, 6, .inl (S 11))), (q 12, .inl (T 0, 6, .inl (S 12))), (q 13, .inl (T 0, 6, .inl (S 13))), (q 14, .inl (T 0, 6, .inl (S 14))), (q 15, .inl (T 0, 6, .inl (S 15))), (q 16, .inl (T 0, 2, .inl (S 16)))] s.heap := hP
  have hD : va_D A [(q 0, .inr (3, [.int (S 0 0), .int (S 0 1), .int (S 0 2), .int (S 0 3), .ref (q 5), .ref (q 6), .ref (q 7), .ref (q 8), .ref (q 9), .ref (q 10), .ref (q 11), .ref (q 12), .ref (q 13), .ref (q 14), .ref (q 15), .ref (q 16)])), (q 5, .inl (T 0, 2, .inl (S 5))), (q 6, .inl (T 0, 20, .inl (S 6))), (q 7, .inl (T 0, 160, .inl (S 7))), (q 8, .inl (T 0, 20, .inl (S 8))), (q 9, .inl (T 0, 20, .inl (S 9))), (q 10, .inl (T 0, 20, .inl (S 10))), (q 11, .inl (T 0, 6, .inl (S 11))), (q 12, .inl (T 0, 6, .inl (S 12))), (q 13, .inl (T 0, 6, .inl (S 13))), (q 14, .inl (T 0, 6, .inl (S 14))), (q 15, .inl (T 0, 6, .inl (S 15))), (q 16, .inl (T 0, 2, .inl (S 16)))] := hD
  skip
  refine w_h (fun H locs hHe hLe => ?_)
  have hP : va_P G vwCl [(q 0, .inr (3, [.int (S 0 0), .int (S 0 1), .int (S 0 2), .int (S 0 3), .ref (q 5), .ref (q 6), .ref (q 7), .ref (q 8), .ref (q 9), .ref (q 10), .ref (q 11), .ref (q 12), .ref (q 13), .ref (q 14), .ref (q 15), .ref (q 16)])), (q 5, .inl (T 0, 2, .inl (S 5))), (q 6, .inl (T 0, 20, .inl (S 6))), (q 7, .inl (T 0, 160, .inl (S 7))), (q 8, .inl (T 0, 20, .inl (S 8))), (q 9, .inl (T 0, 20, .inl (S 9))), (q 10, .inl (T 0, 20, .inl (S 10))), (q 11, .inl (T 0, 6, .inl (S 11))), (q 12, .inl (T 0, 6, .inl (S 12))), (q 13, .inl (T 0, 6, .inl (S 13))), (q 14, .inl (T 0, 6, .inl (S 14))), (q 15, .inl (T 0, 6, .inl (S 15))), (q 16, .inl (T 0, 2, .inl (S 16)))] H := by rw [hHe]; exact hP
  have hS : va_S A s.heap H locs := by rw [hHe, hLe]; exact hS
  refine lv_aload_n hx hb dX3_beginNight_0 rfl (lv_at hl 0 rfl) ?_
  refine lv_dup hx hb dX3_beginNight_1 rfl ?_
  refine va_get (D := G) (ci := 3) (v := .int (S 0 0)) (C := RX3) (T := TX3) (N := 16) hx hb hts hinX3 hown hK hP 0 rfl rfl 0 (by decide) lk48 (fun _ h9 => h9) rfl dX3_beginNight_2 ?_
  refine n_iconst hx hb 1 dX3_beginNight_5 (by decide) ?_
  refine lv_iadd hx hb dX3_beginNight_6 ?_
  refine va_put (D := G) (ci := 3) (v := .int ((S 0 0) + (nI 1))) (ty := .int) (C := RX3) (T := TX3) (N := 16) hx hb hts hinX3 tyX3 tyX3_ok nmX3 hown hK hP hD hS 0 rfl rfl 0 (by decide) lk48 (fun _ h9 => h9) rfl (by decide +kernel) rfl rfl (Nat.le_of_ble_eq_true rfl) dX3_beginNight_7 (fun H locs hP hD hS => ?_)
  have hP : va_P G vwCl [(q 0, .inr (3, [.int ((S 0 0) + (nI 1)), .int (S 0 1), .int (S 0 2), .int (S 0 3), .ref (q 5), .ref (q 6), .ref (q 7), .ref (q 8), .ref (q 9), .ref (q 10), .ref (q 11), .ref (q 12), .ref (q 13), .ref (q 14), .ref (q 15), .ref (q 16)])), (q 5, .inl (T 0, 2, .inl (S 5))), (q 6, .inl (T 0, 20, .inl (S 6))), (q 7, .inl (T 0, 160, .inl (S 7))), (q 8, .inl (T 0, 20, .inl (S 8))), (q 9, .inl (T 0, 20, .inl (S 9))), (q 10, .inl (T 0, 20, .inl (S 10))), (q 11, .inl (T 0, 6, .inl (S 11))), (q 12, .inl (T 0, 6, .inl (S 12))), (q 13, .inl (T 0, 6, .inl (S 13))), (q 14, .inl (T 0, 6, .inl (S 14))), (q 15, .inl (T 0, 6, .inl (S 15))), (q 16, .inl (T 0, 2, .inl (S 16)))] H := hP
  have hD : va_D A [(q 0, .inr (3, [.int ((S 0 0) + (nI 1)), .int (S 0 1), .int (S 0 2), .int (S 0 3), .ref (q 5), .ref (q 6), .ref (q 7), .ref (q 8), .ref (q 9), .ref (q 10), .ref (q 11), .ref (q 12), .ref (q 13), .ref (q 14), .ref (q 15), .ref (q 16)])), (q 5, .inl (T 0, 2, .inl (S 5))), (q 6, .inl (T 0, 20, .inl (S 6))), (q 7, .inl (T 0, 160, .inl (S 7))), (q 8, .inl (T 0, 20, .inl (S 8))), (q 9, .inl (T 0, 20, .inl (S 9))), (q 10, .inl (T 0, 20, .inl (S 10))), (q 11, .inl (T 0, 6, .inl (S 11))), (q 12, .inl (T 0, 6, .inl (S 12))), (q 13, .inl (T 0, 6, .inl (S 13))), (q 14, .inl (T 0, 6, .inl (S 14))), (q 15, .inl (T 0, 6, .inl (S 15))), (q 16, .inl (T 0, 2, .inl (S 16)))] := hD
  refine lv_aload_n hx hb dX3_beginNight_10 rfl (lv_at hl 0 rfl) ?_
  refine n_iconst hx hb 0 dX3_beginNight_11 (by decide) ?_
  refine va_put (D := G) (ci := 3) (v := .int (nI 0)) (ty := .int) (C := RX3) (T := TX3) (N := 16) hx hb hts hinX3 tyX3 tyX3_ok nmX3 hown hK hP hD hS 0 rfl rfl 3 (by decide) lk58 (fun _ h9 => h9) rfl (by decide +kernel) rfl rfl (Nat.le_of_ble_eq_true rfl) dX3_beginNight_12 (fun H locs hP hD hS => ?_)
  have hP : va_P G vwCl [(q 0, .inr (3, [.int ((S 0 0) + (nI 1)), .int (S 0 1), .int (S 0 2), .int (nI 0), .ref (q 5), .ref (q 6), .ref (q 7), .ref (q 8), .ref (q 9), .ref (q 10), .ref (q 11), .ref (q 12), .ref (q 13), .ref (q 14), .ref (q 15), .ref (q 16)])), (q 5, .inl (T 0, 2, .inl (S 5))), (q 6, .inl (T 0, 20, .inl (S 6))), (q 7, .inl (T 0, 160, .inl (S 7))), (q 8, .inl (T 0, 20, .inl (S 8))), (q 9, .inl (T 0, 20, .inl (S 9))), (q 10, .inl (T 0, 20, .inl (S 10))), (q 11, .inl (T 0, 6, .inl (S 11))), (q 12, .inl (T 0, 6, .inl (S 12))), (q 13, .inl (T 0, 6, .inl (S 13))), (q 14, .inl (T 0, 6, .inl (S 14))), (q 15, .inl (T 0, 6, .inl (S 15))), (q 16, .inl (T 0, 2, .inl (S 16)))] H := hP
  have hD : va_D A [(q 0, .inr (3, [.int ((S 0 0) + (nI 1)), .int (S 0 1), .int (S 0 2), .int (nI 0), .ref (q 5), .ref (q 6), .ref (q 7), .ref (q 8), .ref (q 9), .ref (q 10), .ref (q 11), .ref (q 12), .ref (q 13), .ref (q 14), .ref (q 15), .ref (q 16)])), (q 5, .inl (T 0, 2, .inl (S 5))), (q 6, .inl (T 0, 20, .inl (S 6))), (q 7, .inl (T 0, 160, .inl (S 7))), (q 8, .inl (T 0, 20, .inl (S 8))), (q 9, .inl (T 0, 20, .inl (S 9))), (q 10, .inl (T 0, 20, .inl (S 10))), (q 11, .inl (T 0, 6, .inl (S 11))), (q 12, .inl (T 0, 6, .inl (S 12))), (q 13, .inl (T 0, 6, .inl (S 13))), (q 14, .inl (T 0, 6, .inl (S 14))), (q 15, .inl (T 0, 6, .inl (S 15))), (q 16, .inl (T 0, 2, .inl (S 16)))] := hD
  refine lv_aload_n hx hb dX3_beginNight_15 rfl (lv_at hl 0 rfl) ?_
  refine va_get (D := G) (ci := 3) (v := .int ((S 0 0) + (nI 1))) (C := RX3) (T := TX3) (N := 16) hx hb hts hinX3 hown hK hP 0 rfl rfl 0 (by decide) lk48 (fun _ h9 => h9) rfl dX3_beginNight_16 ?_
  refine lv_bipush (v := nI 7) hx hb dX3_beginNight_19 (by decide) ?_
  refine x_irem hx hb (nI_ne0 (by decide) (by decide)) dX3_beginNight_21 ?_
  refine lv_if_ne (tgt := 46) hx hb dX3_beginNight_22 (by decide) (fun c_1 => ?_) (fun c_2 => ?_)
  · skip
    subst hQ
    have e_3 : (S 0 0) + (nI 1) = S 0 0 + nI 1 := (by first | rfl | simp [bI, c_1])
    have e_4 : (S 12) = pBM (S 0 0 + nI 1) (S 12) := (by simp [pBM, c_1])
    rw [e_3, e_4] at hP hD
    have hP9 : va_P G vwCl (oX3 T q (sa (sc (sc S 0 (S 0 0 + nI 1)) 3 (nI 0)) 12 (pBM (S 0 0 + nI 1) (S 12)))) H := hP
    have hD9 : va_D A (oX3 T q (sa (sc (sc S 0 (S 0 0 + nI 1)) 3 (nI 0)) 12 (pBM (S 0 0 + nI 1) (S 12)))) := hD
    exact e_rwv hx hb hr hlocks hS hP9 hD9 dX3_beginNight_46
  · skip
    refine n_iconst hx hb 0 dX3_beginNight_25 (by decide) ?_
    refine lv_istore_n (lv' := [(1, .int (nI 0)), (0, .ref (q 0))]) hx hb dX3_beginNight_26 rfl hl (by decide) rfl (fun ls hl => ?_)
    have L27 : ∀ (n9 k : Nat) (hk1 : k ≤ 6) (hk2 : 6 - k < n9) (x1 : Int32) (F_5 : Nat → Int32) (hx1 : x1 = nI k) (hF_5 : F_5 = pZr (S 12) k) (H : Heap) (locs : List Loc) (hP : va_P G vwCl [(q 0, .inr (3, [.int ((S 0 0) + (nI 1)), .int (S 0 1), .int (S 0 2), .int (nI 0), .ref (q 5), .ref (q 6), .ref (q 7), .ref (q 8), .ref (q 9), .ref (q 10), .ref (q 11), .ref (q 12), .ref (q 13), .ref (q 14), .ref (q 15), .ref (q 16)])), (q 5, .inl (T 0, 2, .inl (S 5))), (q 6, .inl (T 0, 20, .inl (S 6))), (q 7, .inl (T 0, 160, .inl (S 7))), (q 8, .inl (T 0, 20, .inl (S 8))), (q 9, .inl (T 0, 20, .inl (S 9))), (q 10, .inl (T 0, 20, .inl (S 10))), (q 11, .inl (T 0, 6, .inl (S 11))), (q 12, .inl (T 0, 6, .inl F_5)), (q 13, .inl (T 0, 6, .inl (S 13))), (q 14, .inl (T 0, 6, .inl (S 14))), (q 15, .inl (T 0, 6, .inl (S 15))), (q 16, .inl (T 0, 2, .inl (S 16)))] H) (hD : va_D A [(q 0, .inr (3, [.int ((S 0 0) + (nI 1)), .int (S 0 1), .int (S 0 2), .int (nI 0), .ref (q 5), .ref (q 6), .ref (q 7), .ref (q 8), .ref (q 9), .ref (q 10), .ref (q 11), .ref (q 12), .ref (q 13), .ref (q 14), .ref (q 15), .ref (q 16)])), (q 5, .inl (T 0, 2, .inl (S 5))), (q 6, .inl (T 0, 20, .inl (S 6))), (q 7, .inl (T 0, 160, .inl (S 7))), (q 8, .inl (T 0, 20, .inl (S 8))), (q 9, .inl (T 0, 20, .inl (S 9))), (q 10, .inl (T 0, 20, .inl (S 10))), (q 11, .inl (T 0, 6, .inl (S 11))), (q 12, .inl (T 0, 6, .inl F_5)), (q 13, .inl (T 0, 6, .inl (S 13))), (q 14, .inl (T 0, 6, .inl (S 14))), (q 15, .inl (T 0, 6, .inl (S 15))), (q 16, .inl (T 0, 2, .inl (S 16)))]) (hS : va_S A s.heap H locs) (ls : Array Slot) (hl : lv_has ls 2 [(1, .int x1), (0, .ref (q 0))]), W p l e (headSpec wsX3_beginNight (rmD 0 0 0)).room s m args below meth c H locs 0 0 Q0 (F0 m 27 ls []) := by
      intro n9
      induction n9 with
      | zero => intros; omega
      | succ n9 ih27 =>
        intro k hk1 hk2 x1 F_5 hx1 hF_5 H locs hP hD hS ls hl
        subst hx1 hF_5
        refine lv_iload_n hx hb dX3_beginNight_27 rfl (lv_at hl 0 rfl) ?_
        refine lv_bipush (v := nI 6) hx hb dX3_beginNight_28 (by decide) ?_
        refine n_icmp_ge (a := k) (b := 6) (tgt := 46) hx hb (by omega) (by decide) dX3_beginNight_30 (by decide) (fun c_6 => ?_) (fun c_7 => ?_)
        · skip
          obtain rfl : k = 6 := (by omega)
          subst hQ
          have e_8 : (S 0 0) + (nI 1) = S 0 0 + nI 1 := (by first | rfl | simp [bI, c_2, c_6])
          have e_9 : (pZr (S 12) 6) = pBM (S 0 0 + nI 1) (S 12) := (by simp [pBM, c_2, c_6])
          rw [e_8, e_9] at hP hD
          have hP9 : va_P G vwCl (oX3 T q (sa (sc (sc S 0 (S 0 0 + nI 1)) 3 (nI 0)) 12 (pBM (S 0 0 + nI 1) (S 12)))) H := hP
          have hD9 : va_D A (oX3 T q (sa (sc (sc S 0 (S 0 0 + nI 1)) 3 (nI 0)) 12 (pBM (S 0 0 + nI 1) (S 12)))) := hD
          exact e_rwv hx hb hr hlocks hS hP9 hD9 dX3_beginNight_46
        · skip
          refine lv_aload_n hx hb dX3_beginNight_33 rfl (lv_at hl 1 rfl) ?_
          refine va_get (D := G) (ci := 3) (v := .ref (q 12)) (C := RX3) (T := TX3) (N := 16) hx hb hts hinX3 hown hK hP 0 rfl rfl 11 (by decide) lk33 (fun _ h9 => h9) rfl dX3_beginNight_34 ?_
          refine lv_iload_n hx hb dX3_beginNight_37 rfl (lv_at hl 0 rfl) ?_
          refine n_iconst hx hb 0 dX3_beginNight_38 (by decide) ?_
          refine n_iast hx hb hK hP hD hS 8 0 rfl rfl k (by omega) (by decide) dX3_beginNight_39 (fun H locs hP hD hS => ?_)
          have hP : va_P G vwCl [(q 0, .inr (3, [.int ((S 0 0) + (nI 1)), .int (S 0 1), .int (S 0 2), .int (nI 0), .ref (q 5), .ref (q 6), .ref (q 7), .ref (q 8), .ref (q 9), .ref (q 10), .ref (q 11), .ref (q 12), .ref (q 13), .ref (q 14), .ref (q 15), .ref (q 16)])), (q 5, .inl (T 0, 2, .inl (S 5))), (q 6, .inl (T 0, 20, .inl (S 6))), (q 7, .inl (T 0, 160, .inl (S 7))), (q 8, .inl (T 0, 20, .inl (S 8))), (q 9, .inl (T 0, 20, .inl (S 9))), (q 10, .inl (T 0, 20, .inl (S 10))), (q 11, .inl (T 0, 6, .inl (S 11))), (q 12, .inl (T 0, 6, .inl (upd (pZr (S 12) k) k (nI 0)))), (q 13, .inl (T 0, 6, .inl (S 13))), (q 14, .inl (T 0, 6, .inl (S 14))), (q 15, .inl (T 0, 6, .inl (S 15))), (q 16, .inl (T 0, 2, .inl (S 16)))] H := hP
          have hD : va_D A [(q 0, .inr (3, [.int ((S 0 0) + (nI 1)), .int (S 0 1), .int (S 0 2), .int (nI 0), .ref (q 5), .ref (q 6), .ref (q 7), .ref (q 8), .ref (q 9), .ref (q 10), .ref (q 11), .ref (q 12), .ref (q 13), .ref (q 14), .ref (q 15), .ref (q 16)])), (q 5, .inl (T 0, 2, .inl (S 5))), (q 6, .inl (T 0, 20, .inl (S 6))), (q 7, .inl (T 0, 160, .inl (S 7))), (q 8, .inl (T 0, 20, .inl (S 8))), (q 9, .inl (T 0, 20, .inl (S 9))), (q 10, .inl (T 0, 20, .inl (S 10))), (q 11, .inl (T 0, 6, .inl (S 11))), (q 12, .inl (T 0, 6, .inl (upd (pZr (S 12) k) k (nI 0)))), (q 13, .inl (T 0, 6, .inl (S 13))), (q 14, .inl (T 0, 6, .inl (S 14))), (q 15, .inl (T 0, 6, .inl (S 15))), (q 16, .inl (T 0, 2, .inl (S 16)))] := hD
          refine lv_iinc (v := nI (k + 1)) (lv' := [(1, .int (nI (k + 1))), (0, .ref (q 0))]) hx hb dX3_beginNight_40 hl (k := 0) rfl (n_inc k 1 rfl) (by decide) rfl (fun ls hl => ?_)
          refine lv_goto (tgt := 27) hx hb dX3_beginNight_43 (by decide) ?_
          have e_10 : (upd (pZr (S 12) k) k (nI 0)) = pZr (S 12) (k + 1) := rfl
          exact ih27 (k + 1) (by omega) (by omega) _ _ rfl e_10 _ _ hP hD hS _ (lv_sub hl [0, 1] rfl)
    exact L27 (6 + 1) 0 (by omega) (by omega) _ _ rfl rfl _ _ hP hD hS _ (lv_sub hl [0, 1] rfl)
set_option maxHeartbeats 4000000 in
set_option maxRecDepth 100000 in
theorem c_X3_countHearing (l : Launch) (G : va_G) (T : Nat → ClassId) (sz : Nat) (q : Nat → Nat) (S : Nat → Nat → Int32) (h : Int32) (u : Int32) : RWv l yX3_countHearing wsX3_countHearing 1 0 0 G T sz (oX3 T q S) [.ref (q 0), .int h, .int u] (oX3 T q (sa (sa S 13 (pCU (S 13) u 6)) 14 (pCN (S 14) h u 6))) := by
  refine Met.ofW (cc := cX3_countHearing) (maxL := 4) (ret := none) (by decide) rfl ?_
  intro p e s m args below meth c s₁ B hml hv
  obtain ⟨ha, hsz, hP, hK, hD0, hE0⟩ := hv
  have hx := B.exec
  have hb := B.bytes
  have hr := B.returns
  have hlocks := B.notSynchronized
  have hts := atoms_spec (ws := wsX3_countHearing) B.pre
  have hown : s.vm.findClass RX3 = some m.cls := findClass_of_methodNamed B.named
  have cx : CallFix p m c cX3_countHearing 4 s args wsX3_countHearing RX3 := ⟨hx, hb, hml, hown, hts⟩
  subst hsz
  have hD := hD0.self (sz := s.heap.size)
  generalize hAe : va_A (oX3 T q S) s.heap.size = A at hD hE0 ⊢
  have hE : gE A s s.heap := hE0
  have hA : ∀ q : Nat, s.heap.size ≤ q → A q := fun q h => by rw [← hAe]; exact Or.inr h
  have hS : va_S A s.heap s.heap [] := va_S.rf
  refine w_entry ha (Nat.le_of_ble_eq_true rfl) (fun ls hl => ?_)
  refine w_q (fun Q0 hQ => ?_)
  have lk39 := hts (.fieldLink RX3 39 "WhistleTunes$School" "roomNoise" "[I") (by decide +kernel)
  have hinX3 : ∀ w ∈ wsX30, w ∈ wsX3_countHearing := by decide +kernel
  have lk36 := hts (.fieldLink RX3 36 "WhistleTunes$School" "roomUnderstood" "[I") (by decide +kernel)
  have hl : lv_has ls 4 [(0, .ref (q 0)), (1, .int h), (2, .int u)] := hl
  have hP : va_P G vwCl [(q 0, .inr (3, [.int (S 0 0), .int (S 0 1), .int (S 0 2), .int (S 0 3), .ref (q 5), .ref (q 6), .ref (q 7), .ref (q 8), .ref (q 9), .ref (q 10), .ref (q 11), .ref (q 12), .ref (q 13), .ref (q 14), .ref (q 15), .ref (q 16)])), (q 5, .inl (T 0, 2, .inl (S 5))), (q 6, .inl (T 0, 20, .inl (S 6))), (q 7, .inl (T 0, 160, .inl (S 7))), (q 8, .inl (T 0, 20, .inl (S 8))), (q 9, .inl (T 0, 20, .inl (S 9))), (q 10, .inl (T 0, 20, .inl (S 10))), (q 11, .inl (T 0, 6, .inl (S 11))), (q 12, .inl (T 0, 6, .inl (S 12))), (q 13, .inl (T 0, 6, .inl (S 13))), (q 14, .inl (T 0, 6, .inl (S 14))), (q 15, .inl (T 0, 6, .inl (S 15))), (q 16, .inl (T 0, 2, .inl (S 16)))] s.heap := hP
  have hD : va_D A [(q 0, .inr (3, [.int (S 0 0), .int (S 0 1), .int (S 0 2), .int (S 0 3), .ref (q 5), .ref (q 6), .ref (q 7), .ref (q 8), .ref (q 9), .ref (q 10), .ref (q 11), .ref (q 12), .ref (q 13), .ref (q 14), .ref (q 15), .ref (q 16)])), (q 5, .inl (T 0, 2, .inl (S 5))), (q 6, .inl (T 0, 20, .inl (S 6))), (q 7, .inl (T 0, 160, .inl (S 7))), (q 8, .inl (T 0, 20, .inl (S 8))), (q 9, .inl (T 0, 20, .inl (S 9))), (q 10, .inl (T 0, 20, .inl (S 10))), (q 11, .inl (T 0, 6, .inl (S 11))), (q 12, .inl (T 0, 6, .inl (S 12))), (q 13, .inl (T 0, 6, .inl (S 13))), (q 14, .inl (T 0, 6, .inl (S 14))), (q 15, .inl (T 0, 6, .inl (S 15))), (q 16, .inl (T 0, 2, .inl (S 16)))] := hD
  skip
  refine w_h (fun H locs hHe hLe => ?_)
  have hP : va_P G vwCl [(q 0, .inr (3, [.int (S 0 0), .int (S 0 1), .int (S 0 2), .int (S 0 3), .ref (q 5), .ref (q 6), .ref (q 7), .ref (q 8), .ref (q 9), .ref (q 10), .ref (q 11), .ref (q 12), .ref (q 13), .ref (q 14), .ref (q 15), .ref (q 16)])), (q 5, .inl (T 0, 2, .inl (S 5))), (q 6, .inl (T 0, 20, .inl (S 6))), (q 7, .inl (T 0, 160, .inl (S 7))), (q 8, .inl (T 0, 20, .inl (S 8))), (q 9, .inl (T 0, 20, .inl (S 9))), (q 10, .inl (T 0, 20, .inl (S 10))), (q 11, .inl (T 0, 6, .inl (S 11))), (q 12, .inl (T 0, 6, .inl (S 12))), (q 13, .inl (T 0, 6, .inl (S 13))), (q 14, .inl (T 0, 6, .inl (S 14))), (q 15, .inl (T 0, 6, .inl (S 15))), (q 16, .inl (T 0, 2, .inl (S 16)))] H := by rw [hHe]; exact hP
  have hS : va_S A s.heap H locs := by rw [hHe, hLe]; exact hS
  refine n_iconst hx hb 0 dX3_countHearing_0 (by decide) ?_
  refine lv_istore_n (lv' := [(3, .int (nI 0)), (0, .ref (q 0)), (1, .int h), (2, .int u)]) hx hb dX3_countHearing_1 rfl hl (by decide) rfl (fun ls hl => ?_)
  have L2 : ∀ (n9 k : Nat) (hk1 : k ≤ 6) (hk2 : 6 - k < n9) (x3 : Int32) (F_1 : Nat → Int32) (F_2 : Nat → Int32) (hx3 : x3 = nI k) (hF_1 : F_1 = pCU (S 13) u k) (hF_2 : F_2 = pCN (S 14) h u k) (H : Heap) (locs : List Loc) (hP : va_P G vwCl [(q 0, .inr (3, [.int (S 0 0), .int (S 0 1), .int (S 0 2), .int (S 0 3), .ref (q 5), .ref (q 6), .ref (q 7), .ref (q 8), .ref (q 9), .ref (q 10), .ref (q 11), .ref (q 12), .ref (q 13), .ref (q 14), .ref (q 15), .ref (q 16)])), (q 5, .inl (T 0, 2, .inl (S 5))), (q 6, .inl (T 0, 20, .inl (S 6))), (q 7, .inl (T 0, 160, .inl (S 7))), (q 8, .inl (T 0, 20, .inl (S 8))), (q 9, .inl (T 0, 20, .inl (S 9))), (q 10, .inl (T 0, 20, .inl (S 10))), (q 11, .inl (T 0, 6, .inl (S 11))), (q 12, .inl (T 0, 6, .inl (S 12))), (q 13, .inl (T 0, 6, .inl F_1)), (q 14, .inl (T 0, 6, .inl F_2)), (q 15, .inl (T 0, 6, .inl (S 15))), (q 16, .inl (T 0, 2, .inl (S 16)))] H) (hD : va_D A [(q 0, .inr (3, [.int (S 0 0), .int (S 0 1), .int (S 0 2), .int (S 0 3), .ref (q 5), .ref (q 6), .ref (q 7), .ref (q 8), .ref (q 9), .ref (q 10), .ref (q 11), .ref (q 12), .ref (q 13), .ref (q 14), .ref (q 15), .ref (q 16)])), (q 5, .inl (T 0, 2, .inl (S 5))), (q 6, .inl (T 0, 20, .inl (S 6))), (q 7, .inl (T 0, 160, .inl (S 7))), (q 8, .inl (T 0, 20, .inl (S 8))), (q 9, .inl (T 0, 20, .inl (S 9))), (q 10, .inl (T 0, 20, .inl (S 10))), (q 11, .inl (T 0, 6, .inl (S 11))), (q 12, .inl (T 0, 6, .inl (S 12))), (q 13, .inl (T 0, 6, .inl F_1)), (q 14, .inl (T 0, 6, .inl F_2)), (q 15, .inl (T 0, 6, .inl (S 15))), (q 16, .inl (T 0, 2, .inl (S 16)))]) (hS : va_S A s.heap H locs) (ls : Array Slot) (hl : lv_has ls 4 [(3, .int x3), (0, .ref (q 0)), (1, .int h), (2, .int u)]), W p l e (headSpec wsX3_countHearing (rmD 1 0 0)).room s m args below meth c H locs 0 0 Q0 (F0 m 2 ls []) := by
    intro n9
    induction n9 with
    | zero => intros; omega
    | succ n9 ih2 =>
      intro k hk1 hk2 x3 F_1 F_2 hx3 hF_1 hF_2 H locs hP hD hS ls hl
      subst hx3 hF_1 hF_2
      refine lv_iload_n hx hb dX3_countHearing_2 rfl (lv_at hl 0 rfl) ?_
      refine lv_bipush (v := nI 6) hx hb dX3_countHearing_3 (by decide) ?_
      refine n_icmp_ge (a := k) (b := 6) (tgt := 53) hx hb (by omega) (by decide) dX3_countHearing_5 (by decide) (fun c_3 => ?_) (fun c_4 => ?_)
      · skip
        obtain rfl : k = 6 := (by omega)
        subst hQ
        have hP9 : va_P G vwCl (oX3 T q (sa (sa S 13 (pCU (S 13) u 6)) 14 (pCN (S 14) h u 6))) H := hP
        have hD9 : va_D A (oX3 T q (sa (sa S 13 (pCU (S 13) u 6)) 14 (pCN (S 14) h u 6))) := hD
        exact e_rwv hx hb hr hlocks hS hP9 hD9 dX3_countHearing_53
      · skip
        refine lv_iload_n hx hb dX3_countHearing_8 rfl (lv_at hl 3 rfl) ?_
        refine lv_iload_n hx hb dX3_countHearing_9 rfl (lv_at hl 0 rfl) ?_
        refine k_roN (As := [.int u, .int (nI k)]) (rest := []) (wc := []) (d := 0) (v := bI (pHB u (nI k))) cx (c_X7_hasBit l G T A u (nI k) ) ⟨va_cnB 2 hts gX3_countHearing_X7_hasBit_n87 rfl rfl rfl (hE.1 (RX3, 87, yX7_hasBit) (by decide +kernel)) (hts (.initialized RX7) (by decide +kernel)) (by decide +kernel) ⟨Nat.le_of_ble_eq_true rfl, Nat.le_of_ble_eq_true rfl⟩, hts (.static yX7_hasBit) (by decide +kernel), trivial⟩ (hP.sub (ws' := []) [] rfl) hK (hE.kept hS.2.1) rfl hl.1 rfl (Nat.le_of_ble_eq_true rfl) dX3_countHearing_10 ⟨Nat.le_of_ble_eq_true rfl, Nat.le_of_ble_eq_true rfl⟩ ?_
        refine b_if_eq (b := pHB u (nI k)) (tgt := 29) hx hb dX3_countHearing_13 (by decide) (fun c_5 => ?_) (fun c_6 => ?_)
        · skip
          refine lv_iload_n hx hb dX3_countHearing_29 rfl (lv_at hl 2 rfl) ?_
          refine lv_iload_n hx hb dX3_countHearing_30 rfl (lv_at hl 0 rfl) ?_
          refine k_roN (As := [.int h, .int (nI k)]) (rest := []) (wc := []) (d := 0) (v := bI (pHB h (nI k))) cx (c_X7_hasBit l G T A h (nI k) ) ⟨va_cnB 2 hts gX3_countHearing_X7_hasBit_n87 rfl rfl rfl (hE.1 (RX3, 87, yX7_hasBit) (by decide +kernel)) (hts (.initialized RX7) (by decide +kernel)) (by decide +kernel) ⟨Nat.le_of_ble_eq_true rfl, Nat.le_of_ble_eq_true rfl⟩, hts (.static yX7_hasBit) (by decide +kernel), trivial⟩ (hP.sub (ws' := []) [] rfl) hK (hE.kept hS.2.1) rfl hl.1 rfl (Nat.le_of_ble_eq_true rfl) dX3_countHearing_31 ⟨Nat.le_of_ble_eq_true rfl, Nat.le_of_ble_eq_true rfl⟩ ?_
          refine b_if_eq (b := pHB h (nI k)) (tgt := 47) hx hb dX3_countHearing_34 (by decide) (fun c_7 => ?_) (fun c_8 => ?_)
          · skip
            refine lv_iinc (v := nI (k + 1)) (lv' := [(3, .int (nI (k + 1))), (0, .ref (q 0)), (1, .int h), (2, .int u)]) hx hb dX3_countHearing_47 hl (k := 0) rfl (n_inc k 1 rfl) (by decide) rfl (fun ls hl => ?_)
            refine lv_goto (tgt := 2) hx hb dX3_countHearing_50 (by decide) ?_
            have e_9 : (pCU (S 13) u k) = pCU (S 13) u (k + 1) := (by simp [pCU, c_4, c_5, c_7])
            have e_10 : (pCN (S 14) h u k) = pCN (S 14) h u (k + 1) := (by simp [pCN, c_4, c_5, c_7])
            exact ih2 (k + 1) (by omega) (by omega) _ _ _ rfl e_9 e_10 _ _ hP hD hS _ (lv_sub hl [0, 1, 2, 3] rfl)
          · skip
            refine lv_aload_n hx hb dX3_countHearing_37 rfl (lv_at hl 1 rfl) ?_
            refine va_get (D := G) (ci := 3) (v := .ref (q 14)) (C := RX3) (T := TX3) (N := 16) hx hb hts hinX3 hown hK hP 0 rfl rfl 13 (by decide) lk39 (fun _ h9 => h9) rfl dX3_countHearing_38 ?_
            refine lv_iload_n hx hb dX3_countHearing_41 rfl (lv_at hl 0 rfl) ?_
            refine lv_dup2_11 hx hb dX3_countHearing_42 rfl rfl ?_
            refine n_iald hx hb hK hP 10 0 rfl rfl k (by omega) (by decide) dX3_countHearing_43 ?_
            refine n_iconst hx hb 1 dX3_countHearing_44 (by decide) ?_
            refine lv_iadd hx hb dX3_countHearing_45 ?_
            refine n_iast hx hb hK hP hD hS 10 0 rfl rfl k (by omega) (by decide) dX3_countHearing_46 (fun H locs hP hD hS => ?_)
            have hP : va_P G vwCl [(q 0, .inr (3, [.int (S 0 0), .int (S 0 1), .int (S 0 2), .int (S 0 3), .ref (q 5), .ref (q 6), .ref (q 7), .ref (q 8), .ref (q 9), .ref (q 10), .ref (q 11), .ref (q 12), .ref (q 13), .ref (q 14), .ref (q 15), .ref (q 16)])), (q 5, .inl (T 0, 2, .inl (S 5))), (q 6, .inl (T 0, 20, .inl (S 6))), (q 7, .inl (T 0, 160, .inl (S 7))), (q 8, .inl (T 0, 20, .inl (S 8))), (q 9, .inl (T 0, 20, .inl (S 9))), (q 10, .inl (T 0, 20, .inl (S 10))), (q 11, .inl (T 0, 6, .inl (S 11))), (q 12, .inl (T 0, 6, .inl (S 12))), (q 13, .inl (T 0, 6, .inl (pCU (S 13) u k))), (q 14, .inl (T 0, 6, .inl (upd (pCN (S 14) h u k) k (((pCN (S 14) h u k) k) + (nI 1))))), (q 15, .inl (T 0, 6, .inl (S 15))), (q 16, .inl (T 0, 2, .inl (S 16)))] H := hP
            have hD : va_D A [(q 0, .inr (3, [.int (S 0 0), .int (S 0 1), .int (S 0 2), .int (S 0 3), .ref (q 5), .ref (q 6), .ref (q 7), .ref (q 8), .ref (q 9), .ref (q 10), .ref (q 11), .ref (q 12), .ref (q 13), .ref (q 14), .ref (q 15), .ref (q 16)])), (q 5, .inl (T 0, 2, .inl (S 5))), (q 6, .inl (T 0, 20, .inl (S 6))), (q 7, .inl (T 0, 160, .inl (S 7))), (q 8, .inl (T 0, 20, .inl (S 8))), (q 9, .inl (T 0, 20, .inl (S 9))), (q 10, .inl (T 0, 20, .inl (S 10))), (q 11, .inl (T 0, 6, .inl (S 11))), (q 12, .inl (T 0, 6, .inl (S 12))), (q 13, .inl (T 0, 6, .inl (pCU (S 13) u k))), (q 14, .inl (T 0, 6, .inl (upd (pCN (S 14) h u k) k (((pCN (S 14) h u k) k) + (nI 1))))), (q 15, .inl (T 0, 6, .inl (S 15))), (q 16, .inl (T 0, 2, .inl (S 16)))] := hD
            refine lv_iinc (v := nI (k + 1)) (lv' := [(3, .int (nI (k + 1))), (0, .ref (q 0)), (1, .int h), (2, .int u)]) hx hb dX3_countHearing_47 hl (k := 0) rfl (n_inc k 1 rfl) (by decide) rfl (fun ls hl => ?_)
            refine lv_goto (tgt := 2) hx hb dX3_countHearing_50 (by decide) ?_
            have e_11 : (pCU (S 13) u k) = pCU (S 13) u (k + 1) := (by simp [pCU, c_4, c_5, c_8])
            have e_12 : (upd (pCN (S 14) h u k) k (((pCN (S 14) h u k) k) + (nI 1))) = pCN (S 14) h u (k + 1) := (by simp [pCN, c_4, c_5, c_8])
            exact ih2 (k + 1) (by omega) (by omega) _ _ _ rfl e_11 e_12 _ _ hP hD hS _ (lv_sub hl [0, 1, 2, 3] rfl)
        · skip
          refine lv_aload_n hx hb dX3_countHearing_16 rfl (lv_at hl 1 rfl) ?_
          refine va_get (D := G) (ci := 3) (v := .ref (q 13)) (C := RX3) (T := TX3) (N := 16) hx hb hts hinX3 hown hK hP 0 rfl rfl 12 (by decide) lk36 (fun _ h9 => h9) rfl dX3_countHearing_17 ?_
          refine lv_iload_n hx hb dX3_countHearing_20 rfl (lv_at hl 0 rfl) ?_
          refine lv_dup2_11 hx hb dX3_countHearing_21 rfl rfl ?_
          refine n_iald hx hb hK hP 9 0 rfl rfl k (by omega) (by decide) dX3_countHearing_22 ?_
          refine n_iconst hx hb 1 dX3_countHearing_23 (by decide) ?_
          refine lv_iadd hx hb dX3_countHearing_24 ?_
          refine n_iast hx hb hK hP hD hS 9 0 rfl rfl k (by omega) (by decide) dX3_countHearing_25 (fun H locs hP hD hS => ?_)
          have hP : va_P G vwCl [(q 0, .inr (3, [.int (S 0 0), .int (S 0 1), .int (S 0 2), .int (S 0 3), .ref (q 5), .ref (q 6), .ref (q 7), .ref (q 8), .ref (q 9), .ref (q 10), .ref (q 11), .ref (q 12), .ref (q 13), .ref (q 14), .ref (q 15), .ref (q 16)])), (q 5, .inl (T 0, 2, .inl (S 5))), (q 6, .inl (T 0, 20, .inl (S 6))), (q 7, .inl (T 0, 160, .inl (S 7))), (q 8, .inl (T 0, 20, .inl (S 8))), (q 9, .inl (T 0, 20, .inl (S 9))), (q 10, .inl (T 0, 20, .inl (S 10))), (q 11, .inl (T 0, 6, .inl (S 11))), (q 12, .inl (T 0, 6, .inl (S 12))), (q 13, .inl (T 0, 6, .inl (upd (pCU (S 13) u k) k (((pCU (S 13) u k) k) + (nI 1))))), (q 14, .inl (T 0, 6, .inl (pCN (S 14) h u k))), (q 15, .inl (T 0, 6, .inl (S 15))), (q 16, .inl (T 0, 2, .inl (S 16)))] H := hP
          have hD : va_D A [(q 0, .inr (3, [.int (S 0 0), .int (S 0 1), .int (S 0 2), .int (S 0 3), .ref (q 5), .ref (q 6), .ref (q 7), .ref (q 8), .ref (q 9), .ref (q 10), .ref (q 11), .ref (q 12), .ref (q 13), .ref (q 14), .ref (q 15), .ref (q 16)])), (q 5, .inl (T 0, 2, .inl (S 5))), (q 6, .inl (T 0, 20, .inl (S 6))), (q 7, .inl (T 0, 160, .inl (S 7))), (q 8, .inl (T 0, 20, .inl (S 8))), (q 9, .inl (T 0, 20, .inl (S 9))), (q 10, .inl (T 0, 20, .inl (S 10))), (q 11, .inl (T 0, 6, .inl (S 11))), (q 12, .inl (T 0, 6, .inl (S 12))), (q 13, .inl (T 0, 6, .inl (upd (pCU (S 13) u k) k (((pCU (S 13) u k) k) + (nI 1))))), (q 14, .inl (T 0, 6, .inl (pCN (S 14) h u k))), (q 15, .inl (T 0, 6, .inl (S 15))), (q 16, .inl (T 0, 2, .inl (S 16)))] := hD
          refine lv_goto (tgt := 47) hx hb dX3_countHearing_26 (by decide) ?_
          refine lv_iinc (v := nI (k + 1)) (lv' := [(3, .int (nI (k + 1))), (0, .ref (q 0)), (1, .int h), (2, .int u)]) hx hb dX3_countHearing_47 hl (k := 0) rfl (n_inc k 1 rfl) (by decide) rfl (fun ls hl => ?_)
          refine lv_goto (tgt := 2) hx hb dX3_countHearing_50 (by decide) ?_
          have e_13 : (upd (pCU (S 13) u k) k (((pCU (S 13) u k) k) + (nI 1))) = pCU (S 13) u (k + 1) := (by simp [pCU, c_4, c_6])
          have e_14 : (pCN (S 14) h u k) = pCN (S 14) h u (k + 1) := (by simp [pCN, c_4, c_6])
          exact ih2 (k + 1) (by omega) (by omega) _ _ _ rfl e_13 e_14 _ _ hP hD hS _ (lv_sub hl [0, 1, 2, 3] rfl)
  exact L2 (6 + 1) 0 (by omega) (by omega) _ _ _ rfl rfl rfl _ _ hP hD hS _ (lv_sub hl [0, 1, 2, 3] rfl)
set_option maxHeartbeats 4000000 in
set_option maxRecDepth 100000 in
theorem c_X3_remember (l : Launch) (G : va_G) (T : Nat → ClassId) (sz : Nat) (q : Nat → Nat) (o : Nat → Nat) (S : Nat → Nat → Int32) (O : Nat → Nat → Int32) (r : Nat) (mm : Nat) (hr6 : r < 6) (hm20 : mm < 20) : RWv l yX3_remember wsX3_remember 2 0 0 G T sz (oX3 T q S ++ oX2 T o O) [.ref (q 0), .int (nI r), .int (nI mm), .ref (o 0)] (oX3 T q (sa (sa (sa (sa (sa (sa (sc S 3 ((S 0 3) ||| (O 0 4))) 9 (upd (S 9) mm ((S 9) mm + nI 1))) 10 (upd (S 10) mm ((S 10) mm + pBC (O 0 2)))) 12 (upd (S 12) r ((S 12) r + pBC (O 0 3)))) 13 (pCU (S 13) (O 0 2) 6)) 14 (pCN (S 14) (O 0 1) (O 0 2) 6)) 15 (pLW (S 15) O r mm)) ++ oX2 T o O) := by
  refine Met.ofW (cc := cX3_remember) (maxL := 4) (ret := none) (by decide) rfl ?_
  intro p e s m args below meth c s₁ B hml hv
  obtain ⟨ha, hsz, hP, hK, hD0, hE0⟩ := hv
  have hx := B.exec
  have hb := B.bytes
  have hr := B.returns
  have hlocks := B.notSynchronized
  have hts := atoms_spec (ws := wsX3_remember) B.pre
  have hown : s.vm.findClass RX3 = some m.cls := findClass_of_methodNamed B.named
  have cx : CallFix p m c cX3_remember 4 s args wsX3_remember RX3 := ⟨hx, hb, hml, hown, hts⟩
  subst hsz
  have hD := hD0.self (sz := s.heap.size)
  generalize hAe : va_A (oX3 T q S ++ oX2 T o O) s.heap.size = A at hD hE0 ⊢
  have hE : gE A s s.heap := hE0
  have hA : ∀ q : Nat, s.heap.size ≤ q → A q := fun q h => by rw [← hAe]; exact Or.inr h
  have hS : va_S A s.heap s.heap [] := va_S.rf
  refine w_entry ha (Nat.le_of_ble_eq_true rfl) (fun ls hl => ?_)
  refine w_q (fun Q0 hQ => ?_)
  have lk42 := hts (.fieldLink RX3 42 "WhistleTunes$School" "latestWhistle" "[I") (by decide +kernel)
  have hinX3 : ∀ w ∈ wsX30, w ∈ wsX3_remember := by decide +kernel
  have lk91 := hts (.fieldLink RX3 91 "WhistleTunes$Outcome" "floors" "I") (by decide +kernel)
  have hinX2 : ∀ w ∈ wsX20, w ∈ wsX3_remember := by decide +kernel
  have lk96 := hts (.fieldLink RX3 96 "WhistleTunes$Outcome" "understanders" "I") (by decide +kernel)
  have lk99 := hts (.fieldLink RX3 99 "WhistleTunes$Outcome" "catchers" "I") (by decide +kernel)
  have lk102 := hts (.fieldLink RX3 102 "WhistleTunes$Outcome" "raised" "I") (by decide +kernel)
  have lk24 := hts (.fieldLink RX3 24 "WhistleTunes$School" "timesWhistled" "[I") (by decide +kernel)
  have lk27 := hts (.fieldLink RX3 27 "WhistleTunes$School" "timesUnderstood" "[I") (by decide +kernel)
  have lk110 := hts (.fieldLink RX3 110 "WhistleTunes$Outcome" "hearers" "I") (by decide +kernel)
  have lk33 := hts (.fieldLink RX3 33 "WhistleTunes$School" "roomMarks" "[I") (by decide +kernel)
  have lk58 := hts (.fieldLink RX3 58 "WhistleTunes$School" "raisedRooms" "I") (by decide +kernel)
  have hl : lv_has ls 4 [(0, .ref (q 0)), (1, .int (nI r)), (2, .int (nI mm)), (3, .ref (o 0))] := hl
  have hP : va_P G vwCl [(q 0, .inr (3, [.int (S 0 0), .int (S 0 1), .int (S 0 2), .int (S 0 3), .ref (q 5), .ref (q 6), .ref (q 7), .ref (q 8), .ref (q 9), .ref (q 10), .ref (q 11), .ref (q 12), .ref (q 13), .ref (q 14), .ref (q 15), .ref (q 16)])), (q 5, .inl (T 0, 2, .inl (S 5))), (q 6, .inl (T 0, 20, .inl (S 6))), (q 7, .inl (T 0, 160, .inl (S 7))), (q 8, .inl (T 0, 20, .inl (S 8))), (q 9, .inl (T 0, 20, .inl (S 9))), (q 10, .inl (T 0, 20, .inl (S 10))), (q 11, .inl (T 0, 6, .inl (S 11))), (q 12, .inl (T 0, 6, .inl (S 12))), (q 13, .inl (T 0, 6, .inl (S 13))), (q 14, .inl (T 0, 6, .inl (S 14))), (q 15, .inl (T 0, 6, .inl (S 15))), (q 16, .inl (T 0, 2, .inl (S 16))), (o 0, .inr (2, [.int (O 0 0), .int (O 0 1), .int (O 0 2), .int (O 0 3), .int (O 0 4)]))] s.heap := hP
  have hD : va_D A [(q 0, .inr (3, [.int (S 0 0), .int (S 0 1), .int (S 0 2), .int (S 0 3), .ref (q 5), .ref (q 6), .ref (q 7), .ref (q 8), .ref (q 9), .ref (q 10), .ref (q 11), .ref (q 12), .ref (q 13), .ref (q 14), .ref (q 15), .ref (q 16)])), (q 5, .inl (T 0, 2, .inl (S 5))), (q 6, .inl (T 0, 20, .inl (S 6))), (q 7, .inl (T 0, 160, .inl (S 7))), (q 8, .inl (T 0, 20, .inl (S 8))), (q 9, .inl (T 0, 20, .inl (S 9))), (q 10, .inl (T 0, 20, .inl (S 10))), (q 11, .inl (T 0, 6, .inl (S 11))), (q 12, .inl (T 0, 6, .inl (S 12))), (q 13, .inl (T 0, 6, .inl (S 13))), (q 14, .inl (T 0, 6, .inl (S 14))), (q 15, .inl (T 0, 6, .inl (S 15))), (q 16, .inl (T 0, 2, .inl (S 16))), (o 0, .inr (2, [.int (O 0 0), .int (O 0 1), .int (O 0 2), .int (O 0 3), .int (O 0 4)]))] := hD
  skip
  refine w_h (fun H locs hHe hLe => ?_)
  have hP : va_P G vwCl [(q 0, .inr (3, [.int (S 0 0), .int (S 0 1), .int (S 0 2), .int (S 0 3), .ref (q 5), .ref (q 6), .ref (q 7), .ref (q 8), .ref (q 9), .ref (q 10), .ref (q 11), .ref (q 12), .ref (q 13), .ref (q 14), .ref (q 15), .ref (q 16)])), (q 5, .inl (T 0, 2, .inl (S 5))), (q 6, .inl (T 0, 20, .inl (S 6))), (q 7, .inl (T 0, 160, .inl (S 7))), (q 8, .inl (T 0, 20, .inl (S 8))), (q 9, .inl (T 0, 20, .inl (S 9))), (q 10, .inl (T 0, 20, .inl (S 10))), (q 11, .inl (T 0, 6, .inl (S 11))), (q 12, .inl (T 0, 6, .inl (S 12))), (q 13, .inl (T 0, 6, .inl (S 13))), (q 14, .inl (T 0, 6, .inl (S 14))), (q 15, .inl (T 0, 6, .inl (S 15))), (q 16, .inl (T 0, 2, .inl (S 16))), (o 0, .inr (2, [.int (O 0 0), .int (O 0 1), .int (O 0 2), .int (O 0 3), .int (O 0 4)]))] H := by rw [hHe]; exact hP
  have hS : va_S A s.heap H locs := by rw [hHe, hLe]; exact hS
  refine lv_aload_n hx hb dX3_remember_0 rfl (lv_at hl 0 rfl) ?_
  refine va_get (D := G) (ci := 3) (v := .ref (q 15)) (C := RX3) (T := TX3) (N := 16) hx hb hts hinX3 hown hK hP 0 rfl rfl 14 (by decide) lk42 (fun _ h9 => h9) rfl dX3_remember_1 ?_
  refine n_iconst hx hb 0 dX3_remember_4 (by decide) ?_
  refine lv_iload_n hx hb dX3_remember_5 rfl (lv_at hl 1 rfl) ?_
  refine n_iast hx hb hK hP hD hS 11 0 rfl rfl 0 (by decide) (by decide) dX3_remember_6 (fun H locs hP hD hS => ?_)
  have hP : va_P G vwCl [(q 0, .inr (3, [.int (S 0 0), .int (S 0 1), .int (S 0 2), .int (S 0 3), .ref (q 5), .ref (q 6), .ref (q 7), .ref (q 8), .ref (q 9), .ref (q 10), .ref (q 11), .ref (q 12), .ref (q 13), .ref (q 14), .ref (q 15), .ref (q 16)])), (q 5, .inl (T 0, 2, .inl (S 5))), (q 6, .inl (T 0, 20, .inl (S 6))), (q 7, .inl (T 0, 160, .inl (S 7))), (q 8, .inl (T 0, 20, .inl (S 8))), (q 9, .inl (T 0, 20, .inl (S 9))), (q 10, .inl (T 0, 20, .inl (S 10))), (q 11, .inl (T 0, 6, .inl (S 11))), (q 12, .inl (T 0, 6, .inl (S 12))), (q 13, .inl (T 0, 6, .inl (S 13))), (q 14, .inl (T 0, 6, .inl (S 14))), (q 15, .inl (T 0, 6, .inl (upd (S 15) 0 (nI r)))), (q 16, .inl (T 0, 2, .inl (S 16))), (o 0, .inr (2, [.int (O 0 0), .int (O 0 1), .int (O 0 2), .int (O 0 3), .int (O 0 4)]))] H := hP
  have hD : va_D A [(q 0, .inr (3, [.int (S 0 0), .int (S 0 1), .int (S 0 2), .int (S 0 3), .ref (q 5), .ref (q 6), .ref (q 7), .ref (q 8), .ref (q 9), .ref (q 10), .ref (q 11), .ref (q 12), .ref (q 13), .ref (q 14), .ref (q 15), .ref (q 16)])), (q 5, .inl (T 0, 2, .inl (S 5))), (q 6, .inl (T 0, 20, .inl (S 6))), (q 7, .inl (T 0, 160, .inl (S 7))), (q 8, .inl (T 0, 20, .inl (S 8))), (q 9, .inl (T 0, 20, .inl (S 9))), (q 10, .inl (T 0, 20, .inl (S 10))), (q 11, .inl (T 0, 6, .inl (S 11))), (q 12, .inl (T 0, 6, .inl (S 12))), (q 13, .inl (T 0, 6, .inl (S 13))), (q 14, .inl (T 0, 6, .inl (S 14))), (q 15, .inl (T 0, 6, .inl (upd (S 15) 0 (nI r)))), (q 16, .inl (T 0, 2, .inl (S 16))), (o 0, .inr (2, [.int (O 0 0), .int (O 0 1), .int (O 0 2), .int (O 0 3), .int (O 0 4)]))] := hD
  refine lv_aload_n hx hb dX3_remember_7 rfl (lv_at hl 0 rfl) ?_
  refine va_get (D := G) (ci := 3) (v := .ref (q 15)) (C := RX3) (T := TX3) (N := 16) hx hb hts hinX3 hown hK hP 0 rfl rfl 14 (by decide) lk42 (fun _ h9 => h9) rfl dX3_remember_8 ?_
  refine n_iconst hx hb 1 dX3_remember_11 (by decide) ?_
  refine lv_iload_n hx hb dX3_remember_12 rfl (lv_at hl 2 rfl) ?_
  refine n_iast hx hb hK hP hD hS 11 0 rfl rfl 1 (by decide) (by decide) dX3_remember_13 (fun H locs hP hD hS => ?_)
  have hP : va_P G vwCl [(q 0, .inr (3, [.int (S 0 0), .int (S 0 1), .int (S 0 2), .int (S 0 3), .ref (q 5), .ref (q 6), .ref (q 7), .ref (q 8), .ref (q 9), .ref (q 10), .ref (q 11), .ref (q 12), .ref (q 13), .ref (q 14), .ref (q 15), .ref (q 16)])), (q 5, .inl (T 0, 2, .inl (S 5))), (q 6, .inl (T 0, 20, .inl (S 6))), (q 7, .inl (T 0, 160, .inl (S 7))), (q 8, .inl (T 0, 20, .inl (S 8))), (q 9, .inl (T 0, 20, .inl (S 9))), (q 10, .inl (T 0, 20, .inl (S 10))), (q 11, .inl (T 0, 6, .inl (S 11))), (q 12, .inl (T 0, 6, .inl (S 12))), (q 13, .inl (T 0, 6, .inl (S 13))), (q 14, .inl (T 0, 6, .inl (S 14))), (q 15, .inl (T 0, 6, .inl (upd (upd (S 15) 0 (nI r)) 1 (nI mm)))), (q 16, .inl (T 0, 2, .inl (S 16))), (o 0, .inr (2, [.int (O 0 0), .int (O 0 1), .int (O 0 2), .int (O 0 3), .int (O 0 4)]))] H := hP
  have hD : va_D A [(q 0, .inr (3, [.int (S 0 0), .int (S 0 1), .int (S 0 2), .int (S 0 3), .ref (q 5), .ref (q 6), .ref (q 7), .ref (q 8), .ref (q 9), .ref (q 10), .ref (q 11), .ref (q 12), .ref (q 13), .ref (q 14), .ref (q 15), .ref (q 16)])), (q 5, .inl (T 0, 2, .inl (S 5))), (q 6, .inl (T 0, 20, .inl (S 6))), (q 7, .inl (T 0, 160, .inl (S 7))), (q 8, .inl (T 0, 20, .inl (S 8))), (q 9, .inl (T 0, 20, .inl (S 9))), (q 10, .inl (T 0, 20, .inl (S 10))), (q 11, .inl (T 0, 6, .inl (S 11))), (q 12, .inl (T 0, 6, .inl (S 12))), (q 13, .inl (T 0, 6, .inl (S 13))), (q 14, .inl (T 0, 6, .inl (S 14))), (q 15, .inl (T 0, 6, .inl (upd (upd (S 15) 0 (nI r)) 1 (nI mm)))), (q 16, .inl (T 0, 2, .inl (S 16))), (o 0, .inr (2, [.int (O 0 0), .int (O 0 1), .int (O 0 2), .int (O 0 3), .int (O 0 4)]))] := hD
  refine lv_aload_n hx hb dX3_remember_14 rfl (lv_at hl 0 rfl) ?_
  refine va_get (D := G) (ci := 3) (v := .ref (q 15)) (C := RX3) (T := TX3) (N := 16) hx hb hts hinX3 hown hK hP 0 rfl rfl 14 (by decide) lk42 (fun _ h9 => h9) rfl dX3_remember_15 ?_
  refine n_iconst hx hb 2 dX3_remember_18 (by decide) ?_
  refine lv_aload_n hx hb dX3_remember_19 rfl (lv_at hl 3 rfl) ?_
  refine va_get (D := G) (ci := 2) (v := .int (O 0 0)) (C := RX2) (T := TX2) (N := 5) hx hb hts hinX2 hown hK hP 13 rfl rfl 0 (by decide) lk91 (fun _ h9 => h9) rfl dX3_remember_20 ?_
  refine n_iast hx hb hK hP hD hS 11 0 rfl rfl 2 (by decide) (by decide) dX3_remember_23 (fun H locs hP hD hS => ?_)
  have hP : va_P G vwCl [(q 0, .inr (3, [.int (S 0 0), .int (S 0 1), .int (S 0 2), .int (S 0 3), .ref (q 5), .ref (q 6), .ref (q 7), .ref (q 8), .ref (q 9), .ref (q 10), .ref (q 11), .ref (q 12), .ref (q 13), .ref (q 14), .ref (q 15), .ref (q 16)])), (q 5, .inl (T 0, 2, .inl (S 5))), (q 6, .inl (T 0, 20, .inl (S 6))), (q 7, .inl (T 0, 160, .inl (S 7))), (q 8, .inl (T 0, 20, .inl (S 8))), (q 9, .inl (T 0, 20, .inl (S 9))), (q 10, .inl (T 0, 20, .inl (S 10))), (q 11, .inl (T 0, 6, .inl (S 11))), (q 12, .inl (T 0, 6, .inl (S 12))), (q 13, .inl (T 0, 6, .inl (S 13))), (q 14, .inl (T 0, 6, .inl (S 14))), (q 15, .inl (T 0, 6, .inl (upd (upd (upd (S 15) 0 (nI r)) 1 (nI mm)) 2 (O 0 0)))), (q 16, .inl (T 0, 2, .inl (S 16))), (o 0, .inr (2, [.int (O 0 0), .int (O 0 1), .int (O 0 2), .int (O 0 3), .int (O 0 4)]))] H := hP
  have hD : va_D A [(q 0, .inr (3, [.int (S 0 0), .int (S 0 1), .int (S 0 2), .int (S 0 3), .ref (q 5), .ref (q 6), .ref (q 7), .ref (q 8), .ref (q 9), .ref (q 10), .ref (q 11), .ref (q 12), .ref (q 13), .ref (q 14), .ref (q 15), .ref (q 16)])), (q 5, .inl (T 0, 2, .inl (S 5))), (q 6, .inl (T 0, 20, .inl (S 6))), (q 7, .inl (T 0, 160, .inl (S 7))), (q 8, .inl (T 0, 20, .inl (S 8))), (q 9, .inl (T 0, 20, .inl (S 9))), (q 10, .inl (T 0, 20, .inl (S 10))), (q 11, .inl (T 0, 6, .inl (S 11))), (q 12, .inl (T 0, 6, .inl (S 12))), (q 13, .inl (T 0, 6, .inl (S 13))), (q 14, .inl (T 0, 6, .inl (S 14))), (q 15, .inl (T 0, 6, .inl (upd (upd (upd (S 15) 0 (nI r)) 1 (nI mm)) 2 (O 0 0)))), (q 16, .inl (T 0, 2, .inl (S 16))), (o 0, .inr (2, [.int (O 0 0), .int (O 0 1), .int (O 0 2), .int (O 0 3), .int (O 0 4)]))] := hD
  refine lv_aload_n hx hb dX3_remember_24 rfl (lv_at hl 0 rfl) ?_
  refine va_get (D := G) (ci := 3) (v := .ref (q 15)) (C := RX3) (T := TX3) (N := 16) hx hb hts hinX3 hown hK hP 0 rfl rfl 14 (by decide) lk42 (fun _ h9 => h9) rfl dX3_remember_25 ?_
  refine n_iconst hx hb 3 dX3_remember_28 (by decide) ?_
  refine lv_aload_n hx hb dX3_remember_29 rfl (lv_at hl 3 rfl) ?_
  refine va_get (D := G) (ci := 2) (v := .int (O 0 2)) (C := RX2) (T := TX2) (N := 5) hx hb hts hinX2 hown hK hP 13 rfl rfl 2 (by decide) lk96 (fun _ h9 => h9) rfl dX3_remember_30 ?_
  refine n_iast hx hb hK hP hD hS 11 0 rfl rfl 3 (by decide) (by decide) dX3_remember_33 (fun H locs hP hD hS => ?_)
  have hP : va_P G vwCl [(q 0, .inr (3, [.int (S 0 0), .int (S 0 1), .int (S 0 2), .int (S 0 3), .ref (q 5), .ref (q 6), .ref (q 7), .ref (q 8), .ref (q 9), .ref (q 10), .ref (q 11), .ref (q 12), .ref (q 13), .ref (q 14), .ref (q 15), .ref (q 16)])), (q 5, .inl (T 0, 2, .inl (S 5))), (q 6, .inl (T 0, 20, .inl (S 6))), (q 7, .inl (T 0, 160, .inl (S 7))), (q 8, .inl (T 0, 20, .inl (S 8))), (q 9, .inl (T 0, 20, .inl (S 9))), (q 10, .inl (T 0, 20, .inl (S 10))), (q 11, .inl (T 0, 6, .inl (S 11))), (q 12, .inl (T 0, 6, .inl (S 12))), (q 13, .inl (T 0, 6, .inl (S 13))), (q 14, .inl (T 0, 6, .inl (S 14))), (q 15, .inl (T 0, 6, .inl (upd (upd (upd (upd (S 15) 0 (nI r)) 1 (nI mm)) 2 (O 0 0)) 3 (O 0 2)))), (q 16, .inl (T 0, 2, .inl (S 16))), (o 0, .inr (2, [.int (O 0 0), .int (O 0 1), .int (O 0 2), .int (O 0 3), .int (O 0 4)]))] H := hP
  have hD : va_D A [(q 0, .inr (3, [.int (S 0 0), .int (S 0 1), .int (S 0 2), .int (S 0 3), .ref (q 5), .ref (q 6), .ref (q 7), .ref (q 8), .ref (q 9), .ref (q 10), .ref (q 11), .ref (q 12), .ref (q 13), .ref (q 14), .ref (q 15), .ref (q 16)])), (q 5, .inl (T 0, 2, .inl (S 5))), (q 6, .inl (T 0, 20, .inl (S 6))), (q 7, .inl (T 0, 160, .inl (S 7))), (q 8, .inl (T 0, 20, .inl (S 8))), (q 9, .inl (T 0, 20, .inl (S 9))), (q 10, .inl (T 0, 20, .inl (S 10))), (q 11, .inl (T 0, 6, .inl (S 11))), (q 12, .inl (T 0, 6, .inl (S 12))), (q 13, .inl (T 0, 6, .inl (S 13))), (q 14, .inl (T 0, 6, .inl (S 14))), (q 15, .inl (T 0, 6, .inl (upd (upd (upd (upd (S 15) 0 (nI r)) 1 (nI mm)) 2 (O 0 0)) 3 (O 0 2)))), (q 16, .inl (T 0, 2, .inl (S 16))), (o 0, .inr (2, [.int (O 0 0), .int (O 0 1), .int (O 0 2), .int (O 0 3), .int (O 0 4)]))] := hD
  refine lv_aload_n hx hb dX3_remember_34 rfl (lv_at hl 0 rfl) ?_
  refine va_get (D := G) (ci := 3) (v := .ref (q 15)) (C := RX3) (T := TX3) (N := 16) hx hb hts hinX3 hown hK hP 0 rfl rfl 14 (by decide) lk42 (fun _ h9 => h9) rfl dX3_remember_35 ?_
  refine n_iconst hx hb 4 dX3_remember_38 (by decide) ?_
  refine lv_aload_n hx hb dX3_remember_39 rfl (lv_at hl 3 rfl) ?_
  refine va_get (D := G) (ci := 2) (v := .int (O 0 3)) (C := RX2) (T := TX2) (N := 5) hx hb hts hinX2 hown hK hP 13 rfl rfl 3 (by decide) lk99 (fun _ h9 => h9) rfl dX3_remember_40 ?_
  refine n_iast hx hb hK hP hD hS 11 0 rfl rfl 4 (by decide) (by decide) dX3_remember_43 (fun H locs hP hD hS => ?_)
  have hP : va_P G vwCl [(q 0, .inr (3, [.int (S 0 0), .int (S 0 1), .int (S 0 2), .int (S 0 3), .ref (q 5), .ref (q 6), .ref (q 7), .ref (q 8), .ref (q 9), .ref (q 10), .ref (q 11), .ref (q 12), .ref (q 13), .ref (q 14), .ref (q 15), .ref (q 16)])), (q 5, .inl (T 0, 2, .inl (S 5))), (q 6, .inl (T 0, 20, .inl (S 6))), (q 7, .inl (T 0, 160, .inl (S 7))), (q 8, .inl (T 0, 20, .inl (S 8))), (q 9, .inl (T 0, 20, .inl (S 9))), (q 10, .inl (T 0, 20, .inl (S 10))), (q 11, .inl (T 0, 6, .inl (S 11))), (q 12, .inl (T 0, 6, .inl (S 12))), (q 13, .inl (T 0, 6, .inl (S 13))), (q 14, .inl (T 0, 6, .inl (S 14))), (q 15, .inl (T 0, 6, .inl (upd (upd (upd (upd (upd (S 15) 0 (nI r)) 1 (nI mm)) 2 (O 0 0)) 3 (O 0 2)) 4 (O 0 3)))), (q 16, .inl (T 0, 2, .inl (S 16))), (o 0, .inr (2, [.int (O 0 0), .int (O 0 1), .int (O 0 2), .int (O 0 3), .int (O 0 4)]))] H := hP
  have hD : va_D A [(q 0, .inr (3, [.int (S 0 0), .int (S 0 1), .int (S 0 2), .int (S 0 3), .ref (q 5), .ref (q 6), .ref (q 7), .ref (q 8), .ref (q 9), .ref (q 10), .ref (q 11), .ref (q 12), .ref (q 13), .ref (q 14), .ref (q 15), .ref (q 16)])), (q 5, .inl (T 0, 2, .inl (S 5))), (q 6, .inl (T 0, 20, .inl (S 6))), (q 7, .inl (T 0, 160, .inl (S 7))), (q 8, .inl (T 0, 20, .inl (S 8))), (q 9, .inl (T 0, 20, .inl (S 9))), (q 10, .inl (T 0, 20, .inl (S 10))), (q 11, .inl (T 0, 6, .inl (S 11))), (q 12, .inl (T 0, 6, .inl (S 12))), (q 13, .inl (T 0, 6, .inl (S 13))), (q 14, .inl (T 0, 6, .inl (S 14))), (q 15, .inl (T 0, 6, .inl (upd (upd (upd (upd (upd (S 15) 0 (nI r)) 1 (nI mm)) 2 (O 0 0)) 3 (O 0 2)) 4 (O 0 3)))), (q 16, .inl (T 0, 2, .inl (S 16))), (o 0, .inr (2, [.int (O 0 0), .int (O 0 1), .int (O 0 2), .int (O 0 3), .int (O 0 4)]))] := hD
  refine lv_aload_n hx hb dX3_remember_44 rfl (lv_at hl 0 rfl) ?_
  refine va_get (D := G) (ci := 3) (v := .ref (q 15)) (C := RX3) (T := TX3) (N := 16) hx hb hts hinX3 hown hK hP 0 rfl rfl 14 (by decide) lk42 (fun _ h9 => h9) rfl dX3_remember_45 ?_
  refine n_iconst hx hb 5 dX3_remember_48 (by decide) ?_
  refine lv_aload_n hx hb dX3_remember_49 rfl (lv_at hl 3 rfl) ?_
  refine va_get (D := G) (ci := 2) (v := .int (O 0 4)) (C := RX2) (T := TX2) (N := 5) hx hb hts hinX2 hown hK hP 13 rfl rfl 4 (by decide) lk102 (fun _ h9 => h9) rfl dX3_remember_50 ?_
  refine n_iast hx hb hK hP hD hS 11 0 rfl rfl 5 (by decide) (by decide) dX3_remember_53 (fun H locs hP hD hS => ?_)
  have hP : va_P G vwCl [(q 0, .inr (3, [.int (S 0 0), .int (S 0 1), .int (S 0 2), .int (S 0 3), .ref (q 5), .ref (q 6), .ref (q 7), .ref (q 8), .ref (q 9), .ref (q 10), .ref (q 11), .ref (q 12), .ref (q 13), .ref (q 14), .ref (q 15), .ref (q 16)])), (q 5, .inl (T 0, 2, .inl (S 5))), (q 6, .inl (T 0, 20, .inl (S 6))), (q 7, .inl (T 0, 160, .inl (S 7))), (q 8, .inl (T 0, 20, .inl (S 8))), (q 9, .inl (T 0, 20, .inl (S 9))), (q 10, .inl (T 0, 20, .inl (S 10))), (q 11, .inl (T 0, 6, .inl (S 11))), (q 12, .inl (T 0, 6, .inl (S 12))), (q 13, .inl (T 0, 6, .inl (S 13))), (q 14, .inl (T 0, 6, .inl (S 14))), (q 15, .inl (T 0, 6, .inl (upd (upd (upd (upd (upd (upd (S 15) 0 (nI r)) 1 (nI mm)) 2 (O 0 0)) 3 (O 0 2)) 4 (O 0 3)) 5 (O 0 4)))), (q 16, .inl (T 0, 2, .inl (S 16))), (o 0, .inr (2, [.int (O 0 0), .int (O 0 1), .int (O 0 2), .int (O 0 3), .int (O 0 4)]))] H := hP
  have hD : va_D A [(q 0, .inr (3, [.int (S 0 0), .int (S 0 1), .int (S 0 2), .int (S 0 3), .ref (q 5), .ref (q 6), .ref (q 7), .ref (q 8), .ref (q 9), .ref (q 10), .ref (q 11), .ref (q 12), .ref (q 13), .ref (q 14), .ref (q 15), .ref (q 16)])), (q 5, .inl (T 0, 2, .inl (S 5))), (q 6, .inl (T 0, 20, .inl (S 6))), (q 7, .inl (T 0, 160, .inl (S 7))), (q 8, .inl (T 0, 20, .inl (S 8))), (q 9, .inl (T 0, 20, .inl (S 9))), (q 10, .inl (T 0, 20, .inl (S 10))), (q 11, .inl (T 0, 6, .inl (S 11))), (q 12, .inl (T 0, 6, .inl (S 12))), (q 13, .inl (T 0, 6, .inl (S 13))), (q 14, .inl (T 0, 6, .inl (S 14))), (q 15, .inl (T 0, 6, .inl (upd (upd (upd (upd (upd (upd (S 15) 0 (nI r)) 1 (nI mm)) 2 (O 0 0)) 3 (O 0 2)) 4 (O 0 3)) 5 (O 0 4)))), (q 16, .inl (T 0, 2, .inl (S 16))), (o 0, .inr (2, [.int (O 0 0), .int (O 0 1), .int (O 0 2), .int (O 0 3), .int (O 0 4)]))] := hD
  refine lv_aload_n hx hb dX3_remember_54 rfl (lv_at hl 0 rfl) ?_
  refine va_get (D := G) (ci := 3) (v := .ref (q 9)) (C := RX3) (T := TX3) (N := 16) hx hb hts hinX3 hown hK hP 0 rfl rfl 8 (by decide) lk24 (fun _ h9 => h9) rfl dX3_remember_55 ?_
  refine lv_iload_n hx hb dX3_remember_58 rfl (lv_at hl 2 rfl) ?_
  refine lv_dup2_11 hx hb dX3_remember_59 rfl rfl ?_
  refine n_iald hx hb hK hP 5 0 rfl rfl mm (by omega) (by decide) dX3_remember_60 ?_
  refine n_iconst hx hb 1 dX3_remember_61 (by decide) ?_
  refine lv_iadd hx hb dX3_remember_62 ?_
  refine n_iast hx hb hK hP hD hS 5 0 rfl rfl mm (by omega) (by decide) dX3_remember_63 (fun H locs hP hD hS => ?_)
  have hP : va_P G vwCl [(q 0, .inr (3, [.int (S 0 0), .int (S 0 1), .int (S 0 2), .int (S 0 3), .ref (q 5), .ref (q 6), .ref (q 7), .ref (q 8), .ref (q 9), .ref (q 10), .ref (q 11), .ref (q 12), .ref (q 13), .ref (q 14), .ref (q 15), .ref (q 16)])), (q 5, .inl (T 0, 2, .inl (S 5))), (q 6, .inl (T 0, 20, .inl (S 6))), (q 7, .inl (T 0, 160, .inl (S 7))), (q 8, .inl (T 0, 20, .inl (S 8))), (q 9, .inl (T 0, 20, .inl (upd (S 9) mm (((S 9) mm) + (nI 1))))), (q 10, .inl (T 0, 20, .inl (S 10))), (q 11, .inl (T 0, 6, .inl (S 11))), (q 12, .inl (T 0, 6, .inl (S 12))), (q 13, .inl (T 0, 6, .inl (S 13))), (q 14, .inl (T 0, 6, .inl (S 14))), (q 15, .inl (T 0, 6, .inl (upd (upd (upd (upd (upd (upd (S 15) 0 (nI r)) 1 (nI mm)) 2 (O 0 0)) 3 (O 0 2)) 4 (O 0 3)) 5 (O 0 4)))), (q 16, .inl (T 0, 2, .inl (S 16))), (o 0, .inr (2, [.int (O 0 0), .int (O 0 1), .int (O 0 2), .int (O 0 3), .int (O 0 4)]))] H := hP
  have hD : va_D A [(q 0, .inr (3, [.int (S 0 0), .int (S 0 1), .int (S 0 2), .int (S 0 3), .ref (q 5), .ref (q 6), .ref (q 7), .ref (q 8), .ref (q 9), .ref (q 10), .ref (q 11), .ref (q 12), .ref (q 13), .ref (q 14), .ref (q 15), .ref (q 16)])), (q 5, .inl (T 0, 2, .inl (S 5))), (q 6, .inl (T 0, 20, .inl (S 6))), (q 7, .inl (T 0, 160, .inl (S 7))), (q 8, .inl (T 0, 20, .inl (S 8))), (q 9, .inl (T 0, 20, .inl (upd (S 9) mm (((S 9) mm) + (nI 1))))), (q 10, .inl (T 0, 20, .inl (S 10))), (q 11, .inl (T 0, 6, .inl (S 11))), (q 12, .inl (T 0, 6, .inl (S 12))), (q 13, .inl (T 0, 6, .inl (S 13))), (q 14, .inl (T 0, 6, .inl (S 14))), (q 15, .inl (T 0, 6, .inl (upd (upd (upd (upd (upd (upd (S 15) 0 (nI r)) 1 (nI mm)) 2 (O 0 0)) 3 (O 0 2)) 4 (O 0 3)) 5 (O 0 4)))), (q 16, .inl (T 0, 2, .inl (S 16))), (o 0, .inr (2, [.int (O 0 0), .int (O 0 1), .int (O 0 2), .int (O 0 3), .int (O 0 4)]))] := hD
  refine lv_aload_n hx hb dX3_remember_64 rfl (lv_at hl 0 rfl) ?_
  refine va_get (D := G) (ci := 3) (v := .ref (q 10)) (C := RX3) (T := TX3) (N := 16) hx hb hts hinX3 hown hK hP 0 rfl rfl 9 (by decide) lk27 (fun _ h9 => h9) rfl dX3_remember_65 ?_
  refine lv_iload_n hx hb dX3_remember_68 rfl (lv_at hl 2 rfl) ?_
  refine lv_dup2_11 hx hb dX3_remember_69 rfl rfl ?_
  refine n_iald hx hb hK hP 6 0 rfl rfl mm (by omega) (by decide) dX3_remember_70 ?_
  refine lv_aload_n hx hb dX3_remember_71 rfl (lv_at hl 3 rfl) ?_
  refine va_get (D := G) (ci := 2) (v := .int (O 0 2)) (C := RX2) (T := TX2) (N := 5) hx hb hts hinX2 hown hK hP 13 rfl rfl 2 (by decide) lk96 (fun _ h9 => h9) rfl dX3_remember_72 ?_
  refine k_roS (As := [.int (O 0 2)]) (rest := [.int ((S 10) mm), .int (nI mm), .ref (q 10)]) (wc := []) (d := 0) (v := pBC (O 0 2)) cx (c_J6_bitCount_0f7a4 l G T A (O 0 2) ) (va_cwS 1 hts gX3_remember_J6_bitCount_0f7a4 rfl rfl rfl (by decide +kernel) ⟨Nat.le_of_ble_eq_true rfl, Nat.le_of_ble_eq_true rfl⟩) (hP.sub (ws' := []) [] rfl) hK (hE.kept hS.2.1) rfl hl.1 rfl (Nat.le_of_ble_eq_true rfl) dX3_remember_75 ⟨Nat.le_of_ble_eq_true rfl, Nat.le_of_ble_eq_true rfl⟩ ?_
  refine lv_iadd hx hb dX3_remember_78 ?_
  refine n_iast hx hb hK hP hD hS 6 0 rfl rfl mm (by omega) (by decide) dX3_remember_79 (fun H locs hP hD hS => ?_)
  have hP : va_P G vwCl [(q 0, .inr (3, [.int (S 0 0), .int (S 0 1), .int (S 0 2), .int (S 0 3), .ref (q 5), .ref (q 6), .ref (q 7), .ref (q 8), .ref (q 9), .ref (q 10), .ref (q 11), .ref (q 12), .ref (q 13), .ref (q 14), .ref (q 15), .ref (q 16)])), (q 5, .inl (T 0, 2, .inl (S 5))), (q 6, .inl (T 0, 20, .inl (S 6))), (q 7, .inl (T 0, 160, .inl (S 7))), (q 8, .inl (T 0, 20, .inl (S 8))), (q 9, .inl (T 0, 20, .inl (upd (S 9) mm (((S 9) mm) + (nI 1))))), (q 10, .inl (T 0, 20, .inl (upd (S 10) mm (((S 10) mm) + (pBC (O 0 2)))))), (q 11, .inl (T 0, 6, .inl (S 11))), (q 12, .inl (T 0, 6, .inl (S 12))), (q 13, .inl (T 0, 6, .inl (S 13))), (q 14, .inl (T 0, 6, .inl (S 14))), (q 15, .inl (T 0, 6, .inl (upd (upd (upd (upd (upd (upd (S 15) 0 (nI r)) 1 (nI mm)) 2 (O 0 0)) 3 (O 0 2)) 4 (O 0 3)) 5 (O 0 4)))), (q 16, .inl (T 0, 2, .inl (S 16))), (o 0, .inr (2, [.int (O 0 0), .int (O 0 1), .int (O 0 2), .int (O 0 3), .int (O 0 4)]))] H := hP
  have hD : va_D A [(q 0, .inr (3, [.int (S 0 0), .int (S 0 1), .int (S 0 2), .int (S 0 3), .ref (q 5), .ref (q 6), .ref (q 7), .ref (q 8), .ref (q 9), .ref (q 10), .ref (q 11), .ref (q 12), .ref (q 13), .ref (q 14), .ref (q 15), .ref (q 16)])), (q 5, .inl (T 0, 2, .inl (S 5))), (q 6, .inl (T 0, 20, .inl (S 6))), (q 7, .inl (T 0, 160, .inl (S 7))), (q 8, .inl (T 0, 20, .inl (S 8))), (q 9, .inl (T 0, 20, .inl (upd (S 9) mm (((S 9) mm) + (nI 1))))), (q 10, .inl (T 0, 20, .inl (upd (S 10) mm (((S 10) mm) + (pBC (O 0 2)))))), (q 11, .inl (T 0, 6, .inl (S 11))), (q 12, .inl (T 0, 6, .inl (S 12))), (q 13, .inl (T 0, 6, .inl (S 13))), (q 14, .inl (T 0, 6, .inl (S 14))), (q 15, .inl (T 0, 6, .inl (upd (upd (upd (upd (upd (upd (S 15) 0 (nI r)) 1 (nI mm)) 2 (O 0 0)) 3 (O 0 2)) 4 (O 0 3)) 5 (O 0 4)))), (q 16, .inl (T 0, 2, .inl (S 16))), (o 0, .inr (2, [.int (O 0 0), .int (O 0 1), .int (O 0 2), .int (O 0 3), .int (O 0 4)]))] := hD
  refine lv_aload_n hx hb dX3_remember_80 rfl (lv_at hl 0 rfl) ?_
  refine lv_aload_n hx hb dX3_remember_81 rfl (lv_at hl 3 rfl) ?_
  refine va_get (D := G) (ci := 2) (v := .int (O 0 1)) (C := RX2) (T := TX2) (N := 5) hx hb hts hinX2 hown hK hP 13 rfl rfl 1 (by decide) lk110 (fun _ h9 => h9) rfl dX3_remember_82 ?_
  refine lv_aload_n hx hb dX3_remember_85 rfl (lv_at hl 3 rfl) ?_
  refine va_get (D := G) (ci := 2) (v := .int (O 0 2)) (C := RX2) (T := TX2) (N := 5) hx hb hts hinX2 hown hK hP 13 rfl rfl 2 (by decide) lk96 (fun _ h9 => h9) rfl dX3_remember_86 ?_
  refine k_rvV (As := [.int (O 0 1), .int (O 0 2)]) (rest := []) (wc := oX3 T q (sa (sa (sa S 9 (upd (S 9) mm (((S 9) mm) + (nI 1)))) 10 (upd (S 10) mm (((S 10) mm) + (pBC (O 0 2))))) 15 (upd (upd (upd (upd (upd (upd (S 15) 0 (nI r)) 1 (nI mm)) 2 (O 0 0)) 3 (O 0 2)) 4 (O 0 3)) 5 (O 0 4)))) (wr := oX2 T o O) (w1 := oX3 T q (sa (sa (sa (sa (sa S 9 (upd (S 9) mm (((S 9) mm) + (nI 1)))) 10 (upd (S 10) mm (((S 10) mm) + (pBC (O 0 2))))) 15 (upd (upd (upd (upd (upd (upd (S 15) 0 (nI r)) 1 (nI mm)) 2 (O 0 0)) 3 (O 0 2)) 4 (O 0 3)) 5 (O 0 4))) 13 (pCU ((sa (sa (sa S 9 (upd (S 9) mm (((S 9) mm) + (nI 1)))) 10 (upd (S 10) mm (((S 10) mm) + (pBC (O 0 2))))) 15 (upd (upd (upd (upd (upd (upd (S 15) 0 (nI r)) 1 (nI mm)) 2 (O 0 0)) 3 (O 0 2)) 4 (O 0 3)) 5 (O 0 4))) 13) (O 0 2) 6)) 14 (pCN ((sa (sa (sa S 9 (upd (S 9) mm (((S 9) mm) + (nI 1)))) 10 (upd (S 10) mm (((S 10) mm) + (pBC (O 0 2))))) 15 (upd (upd (upd (upd (upd (upd (S 15) 0 (nI r)) 1 (nI mm)) 2 (O 0 0)) 3 (O 0 2)) 4 (O 0 3)) 5 (O 0 4))) 14) (O 0 1) (O 0 2) 6))) (d := 1) (mc := 0) (ms := 0) (isC := [0, 1, 2, 3, 4, 5, 6, 7, 8, 9, 10, 11, 12]) (isR := [13]) cx (c_X3_countHearing l G T H.size q (sa (sa (sa S 9 (upd (S 9) mm (((S 9) mm) + (nI 1)))) 10 (upd (S 10) mm (((S 10) mm) + (pBC (O 0 2))))) 15 (upd (upd (upd (upd (upd (upd (S 15) 0 (nI r)) 1 (nI mm)) 2 (O 0 0)) 3 (O 0 2)) 4 (O 0 3)) 5 (O 0 4))) (O 0 1) (O 0 2) ) (cwV 2 hts gX3_remember_X3_countHearing rfl rfl rfl (by decide +kernel) ⟨Nat.le_of_ble_eq_true rfl, Nat.le_of_ble_eq_true rfl⟩) ⟨hP, hD, hS, hA, hE, hK, rfl, rfl, rfl, rfl, by decide⟩ (va_recv hK hP (ci := 3) (q0 := 0) rfl rfl) rfl hl.1 rfl (Nat.le_of_ble_eq_true rfl) dX3_remember_89 ⟨Nat.le_of_ble_eq_true rfl, Nat.le_of_ble_eq_true rfl⟩ (fun H locs hP hD hS hz => ?_)
  have hP : va_P G vwCl [(q 0, .inr (3, [.int (S 0 0), .int (S 0 1), .int (S 0 2), .int (S 0 3), .ref (q 5), .ref (q 6), .ref (q 7), .ref (q 8), .ref (q 9), .ref (q 10), .ref (q 11), .ref (q 12), .ref (q 13), .ref (q 14), .ref (q 15), .ref (q 16)])), (q 5, .inl (T 0, 2, .inl (S 5))), (q 6, .inl (T 0, 20, .inl (S 6))), (q 7, .inl (T 0, 160, .inl (S 7))), (q 8, .inl (T 0, 20, .inl (S 8))), (q 9, .inl (T 0, 20, .inl (upd (S 9) mm (((S 9) mm) + (nI 1))))), (q 10, .inl (T 0, 20, .inl (upd (S 10) mm (((S 10) mm) + (pBC (O 0 2)))))), (q 11, .inl (T 0, 6, .inl (S 11))), (q 12, .inl (T 0, 6, .inl (S 12))), (q 13, .inl (T 0, 6, .inl (pCU ((S 13)) (O 0 2) 6))), (q 14, .inl (T 0, 6, .inl (pCN ((S 14)) (O 0 1) (O 0 2) 6))), (q 15, .inl (T 0, 6, .inl (upd (upd (upd (upd (upd (upd (S 15) 0 (nI r)) 1 (nI mm)) 2 (O 0 0)) 3 (O 0 2)) 4 (O 0 3)) 5 (O 0 4)))), (q 16, .inl (T 0, 2, .inl (S 16))), (o 0, .inr (2, [.int (O 0 0), .int (O 0 1), .int (O 0 2), .int (O 0 3), .int (O 0 4)]))] H := kN.sub (is := [1, 2, 3, 4, 5, 6, 7, 8, 9, 10, 11, 12, 13, 0]) hP rfl
  have hD : va_D A [(q 0, .inr (3, [.int (S 0 0), .int (S 0 1), .int (S 0 2), .int (S 0 3), .ref (q 5), .ref (q 6), .ref (q 7), .ref (q 8), .ref (q 9), .ref (q 10), .ref (q 11), .ref (q 12), .ref (q 13), .ref (q 14), .ref (q 15), .ref (q 16)])), (q 5, .inl (T 0, 2, .inl (S 5))), (q 6, .inl (T 0, 20, .inl (S 6))), (q 7, .inl (T 0, 160, .inl (S 7))), (q 8, .inl (T 0, 20, .inl (S 8))), (q 9, .inl (T 0, 20, .inl (upd (S 9) mm (((S 9) mm) + (nI 1))))), (q 10, .inl (T 0, 20, .inl (upd (S 10) mm (((S 10) mm) + (pBC (O 0 2)))))), (q 11, .inl (T 0, 6, .inl (S 11))), (q 12, .inl (T 0, 6, .inl (S 12))), (q 13, .inl (T 0, 6, .inl (pCU ((S 13)) (O 0 2) 6))), (q 14, .inl (T 0, 6, .inl (pCN ((S 14)) (O 0 1) (O 0 2) 6))), (q 15, .inl (T 0, 6, .inl (upd (upd (upd (upd (upd (upd (S 15) 0 (nI r)) 1 (nI mm)) 2 (O 0 0)) 3 (O 0 2)) 4 (O 0 3)) 5 (O 0 4)))), (q 16, .inl (T 0, 2, .inl (S 16))), (o 0, .inr (2, [.int (O 0 0), .int (O 0 1), .int (O 0 2), .int (O 0 3), .int (O 0 4)]))] := hD.sub [1, 2, 3, 4, 5, 6, 7, 8, 9, 10, 11, 12, 13, 0] rfl rfl
  refine lv_aload_n hx hb dX3_remember_92 rfl (lv_at hl 0 rfl) ?_
  refine va_get (D := G) (ci := 3) (v := .ref (q 12)) (C := RX3) (T := TX3) (N := 16) hx hb hts hinX3 hown hK hP 0 rfl rfl 11 (by decide) lk33 (fun _ h9 => h9) rfl dX3_remember_93 ?_
  refine lv_iload_n hx hb dX3_remember_96 rfl (lv_at hl 1 rfl) ?_
  refine lv_dup2_11 hx hb dX3_remember_97 rfl rfl ?_
  refine n_iald hx hb hK hP 8 0 rfl rfl r (by omega) (by decide) dX3_remember_98 ?_
  refine lv_aload_n hx hb dX3_remember_99 rfl (lv_at hl 3 rfl) ?_
  refine va_get (D := G) (ci := 2) (v := .int (O 0 3)) (C := RX2) (T := TX2) (N := 5) hx hb hts hinX2 hown hK hP 13 rfl rfl 3 (by decide) lk99 (fun _ h9 => h9) rfl dX3_remember_100 ?_
  refine k_roS (As := [.int (O 0 3)]) (rest := [.int ((S 12) r), .int (nI r), .ref (q 12)]) (wc := []) (d := 0) (v := pBC (O 0 3)) cx (c_J6_bitCount_0f7a4 l G T A (O 0 3) ) (va_cwS 1 hts gX3_remember_J6_bitCount_0f7a4 rfl rfl rfl (by decide +kernel) ⟨Nat.le_of_ble_eq_true rfl, Nat.le_of_ble_eq_true rfl⟩) (hP.sub (ws' := []) [] rfl) hK (hE.kept hS.2.1) rfl hl.1 rfl (Nat.le_of_ble_eq_true rfl) dX3_remember_103 ⟨Nat.le_of_ble_eq_true rfl, Nat.le_of_ble_eq_true rfl⟩ ?_
  refine lv_iadd hx hb dX3_remember_106 ?_
  refine n_iast hx hb hK hP hD hS 8 0 rfl rfl r (by omega) (by decide) dX3_remember_107 (fun H locs hP hD hS => ?_)
  have hP : va_P G vwCl [(q 0, .inr (3, [.int (S 0 0), .int (S 0 1), .int (S 0 2), .int (S 0 3), .ref (q 5), .ref (q 6), .ref (q 7), .ref (q 8), .ref (q 9), .ref (q 10), .ref (q 11), .ref (q 12), .ref (q 13), .ref (q 14), .ref (q 15), .ref (q 16)])), (q 5, .inl (T 0, 2, .inl (S 5))), (q 6, .inl (T 0, 20, .inl (S 6))), (q 7, .inl (T 0, 160, .inl (S 7))), (q 8, .inl (T 0, 20, .inl (S 8))), (q 9, .inl (T 0, 20, .inl (upd (S 9) mm (((S 9) mm) + (nI 1))))), (q 10, .inl (T 0, 20, .inl (upd (S 10) mm (((S 10) mm) + (pBC (O 0 2)))))), (q 11, .inl (T 0, 6, .inl (S 11))), (q 12, .inl (T 0, 6, .inl (upd (S 12) r (((S 12) r) + (pBC (O 0 3)))))), (q 13, .inl (T 0, 6, .inl (pCU ((S 13)) (O 0 2) 6))), (q 14, .inl (T 0, 6, .inl (pCN ((S 14)) (O 0 1) (O 0 2) 6))), (q 15, .inl (T 0, 6, .inl (upd (upd (upd (upd (upd (upd (S 15) 0 (nI r)) 1 (nI mm)) 2 (O 0 0)) 3 (O 0 2)) 4 (O 0 3)) 5 (O 0 4)))), (q 16, .inl (T 0, 2, .inl (S 16))), (o 0, .inr (2, [.int (O 0 0), .int (O 0 1), .int (O 0 2), .int (O 0 3), .int (O 0 4)]))] H := hP
  have hD : va_D A [(q 0, .inr (3, [.int (S 0 0), .int (S 0 1), .int (S 0 2), .int (S 0 3), .ref (q 5), .ref (q 6), .ref (q 7), .ref (q 8), .ref (q 9), .ref (q 10), .ref (q 11), .ref (q 12), .ref (q 13), .ref (q 14), .ref (q 15), .ref (q 16)])), (q 5, .inl (T 0, 2, .inl (S 5))), (q 6, .inl (T 0, 20, .inl (S 6))), (q 7, .inl (T 0, 160, .inl (S 7))), (q 8, .inl (T 0, 20, .inl (S 8))), (q 9, .inl (T 0, 20, .inl (upd (S 9) mm (((S 9) mm) + (nI 1))))), (q 10, .inl (T 0, 20, .inl (upd (S 10) mm (((S 10) mm) + (pBC (O 0 2)))))), (q 11, .inl (T 0, 6, .inl (S 11))), (q 12, .inl (T 0, 6, .inl (upd (S 12) r (((S 12) r) + (pBC (O 0 3)))))), (q 13, .inl (T 0, 6, .inl (pCU ((S 13)) (O 0 2) 6))), (q 14, .inl (T 0, 6, .inl (pCN ((S 14)) (O 0 1) (O 0 2) 6))), (q 15, .inl (T 0, 6, .inl (upd (upd (upd (upd (upd (upd (S 15) 0 (nI r)) 1 (nI mm)) 2 (O 0 0)) 3 (O 0 2)) 4 (O 0 3)) 5 (O 0 4)))), (q 16, .inl (T 0, 2, .inl (S 16))), (o 0, .inr (2, [.int (O 0 0), .int (O 0 1), .int (O 0 2), .int (O 0 3), .int (O 0 4)]))] := hD
  refine lv_aload_n hx hb dX3_remember_108 rfl (lv_at hl 0 rfl) ?_
  refine lv_dup hx hb dX3_remember_109 rfl ?_
  refine va_get (D := G) (ci := 3) (v := .int (S 0 3)) (C := RX3) (T := TX3) (N := 16) hx hb hts hinX3 hown hK hP 0 rfl rfl 3 (by decide) lk58 (fun _ h9 => h9) rfl dX3_remember_110 ?_
  refine lv_aload_n hx hb dX3_remember_113 rfl (lv_at hl 3 rfl) ?_
  refine va_get (D := G) (ci := 2) (v := .int (O 0 4)) (C := RX2) (T := TX2) (N := 5) hx hb hts hinX2 hown hK hP 13 rfl rfl 4 (by decide) lk102 (fun _ h9 => h9) rfl dX3_remember_114 ?_
  refine lv_ior hx hb dX3_remember_117 ?_
  refine va_put (D := G) (ci := 3) (v := .int ((S 0 3) ||| (O 0 4))) (ty := .int) (C := RX3) (T := TX3) (N := 16) hx hb hts hinX3 tyX3 tyX3_ok nmX3 hown hK hP hD hS 0 rfl rfl 3 (by decide) lk58 (fun _ h9 => h9) rfl (by decide +kernel) rfl rfl (Nat.le_of_ble_eq_true rfl) dX3_remember_118 (fun H locs hP hD hS => ?_)
  have hP : va_P G vwCl [(q 0, .inr (3, [.int (S 0 0), .int (S 0 1), .int (S 0 2), .int ((S 0 3) ||| (O 0 4)), .ref (q 5), .ref (q 6), .ref (q 7), .ref (q 8), .ref (q 9), .ref (q 10), .ref (q 11), .ref (q 12), .ref (q 13), .ref (q 14), .ref (q 15), .ref (q 16)])), (q 5, .inl (T 0, 2, .inl (S 5))), (q 6, .inl (T 0, 20, .inl (S 6))), (q 7, .inl (T 0, 160, .inl (S 7))), (q 8, .inl (T 0, 20, .inl (S 8))), (q 9, .inl (T 0, 20, .inl (upd (S 9) mm (((S 9) mm) + (nI 1))))), (q 10, .inl (T 0, 20, .inl (upd (S 10) mm (((S 10) mm) + (pBC (O 0 2)))))), (q 11, .inl (T 0, 6, .inl (S 11))), (q 12, .inl (T 0, 6, .inl (upd (S 12) r (((S 12) r) + (pBC (O 0 3)))))), (q 13, .inl (T 0, 6, .inl (pCU ((S 13)) (O 0 2) 6))), (q 14, .inl (T 0, 6, .inl (pCN ((S 14)) (O 0 1) (O 0 2) 6))), (q 15, .inl (T 0, 6, .inl (upd (upd (upd (upd (upd (upd (S 15) 0 (nI r)) 1 (nI mm)) 2 (O 0 0)) 3 (O 0 2)) 4 (O 0 3)) 5 (O 0 4)))), (q 16, .inl (T 0, 2, .inl (S 16))), (o 0, .inr (2, [.int (O 0 0), .int (O 0 1), .int (O 0 2), .int (O 0 3), .int (O 0 4)]))] H := hP
  have hD : va_D A [(q 0, .inr (3, [.int (S 0 0), .int (S 0 1), .int (S 0 2), .int ((S 0 3) ||| (O 0 4)), .ref (q 5), .ref (q 6), .ref (q 7), .ref (q 8), .ref (q 9), .ref (q 10), .ref (q 11), .ref (q 12), .ref (q 13), .ref (q 14), .ref (q 15), .ref (q 16)])), (q 5, .inl (T 0, 2, .inl (S 5))), (q 6, .inl (T 0, 20, .inl (S 6))), (q 7, .inl (T 0, 160, .inl (S 7))), (q 8, .inl (T 0, 20, .inl (S 8))), (q 9, .inl (T 0, 20, .inl (upd (S 9) mm (((S 9) mm) + (nI 1))))), (q 10, .inl (T 0, 20, .inl (upd (S 10) mm (((S 10) mm) + (pBC (O 0 2)))))), (q 11, .inl (T 0, 6, .inl (S 11))), (q 12, .inl (T 0, 6, .inl (upd (S 12) r (((S 12) r) + (pBC (O 0 3)))))), (q 13, .inl (T 0, 6, .inl (pCU ((S 13)) (O 0 2) 6))), (q 14, .inl (T 0, 6, .inl (pCN ((S 14)) (O 0 1) (O 0 2) 6))), (q 15, .inl (T 0, 6, .inl (upd (upd (upd (upd (upd (upd (S 15) 0 (nI r)) 1 (nI mm)) 2 (O 0 0)) 3 (O 0 2)) 4 (O 0 3)) 5 (O 0 4)))), (q 16, .inl (T 0, 2, .inl (S 16))), (o 0, .inr (2, [.int (O 0 0), .int (O 0 1), .int (O 0 2), .int (O 0 3), .int (O 0 4)]))] := hD
  subst hQ
  have e_1 : (upd (S 9) mm (((S 9) mm) + (nI 1))) = upd (S 9) mm ((S 9) mm + nI 1) := rfl
  have e_2 : (upd (S 10) mm (((S 10) mm) + (pBC (O 0 2)))) = upd (S 10) mm ((S 10) mm + pBC (O 0 2)) := rfl
  have e_3 : (upd (S 12) r (((S 12) r) + (pBC (O 0 3)))) = upd (S 12) r ((S 12) r + pBC (O 0 3)) := rfl
  have e_4 : (pCU ((S 13)) (O 0 2) 6) = pCU (S 13) (O 0 2) 6 := (by first | rfl | simp [bI])
  have e_5 : (pCN ((S 14)) (O 0 1) (O 0 2) 6) = pCN (S 14) (O 0 1) (O 0 2) 6 := (by first | rfl | simp [bI])
  have e_6 : (upd (upd (upd (upd (upd (upd (S 15) 0 (nI r)) 1 (nI mm)) 2 (O 0 0)) 3 (O 0 2)) 4 (O 0 3)) 5 (O 0 4)) = pLW (S 15) O r mm := rfl
  rw [e_6, e_2, e_3, e_1, e_5, e_4] at hP hD
  have hP9 : va_P G vwCl (oX3 T q (sa (sa (sa (sa (sa (sa (sc S 3 ((S 0 3) ||| (O 0 4))) 9 (upd (S 9) mm ((S 9) mm + nI 1))) 10 (upd (S 10) mm ((S 10) mm + pBC (O 0 2)))) 12 (upd (S 12) r ((S 12) r + pBC (O 0 3)))) 13 (pCU (S 13) (O 0 2) 6)) 14 (pCN (S 14) (O 0 1) (O 0 2) 6)) 15 (pLW (S 15) O r mm)) ++ oX2 T o O) H := hP
  have hD9 : va_D A (oX3 T q (sa (sa (sa (sa (sa (sa (sc S 3 ((S 0 3) ||| (O 0 4))) 9 (upd (S 9) mm ((S 9) mm + nI 1))) 10 (upd (S 10) mm ((S 10) mm + pBC (O 0 2)))) 12 (upd (S 12) r ((S 12) r + pBC (O 0 3)))) 13 (pCU (S 13) (O 0 2) 6)) 14 (pCN (S 14) (O 0 1) (O 0 2) 6)) 15 (pLW (S 15) O r mm)) ++ oX2 T o O) := hD
  exact e_rwv hx hb hr hlocks hS hP9 hD9 dX3_remember_121
set_option maxHeartbeats 4000000 in
set_option maxRecDepth 100000 in
theorem c_X2_foresee (l : Launch) (G : va_G) (T : Nat → ClassId) (sz : Nat) (o : Nat → Nat) (q : Nat → Nat) (O : Nat → Nat → Int32) (S : Nat → Nat → Int32) (r : Nat) (mm : Nat) (hr6 : r < 6) (hm20 : mm < 20) : RWv l yX2_foresee wsX2_foresee 2 0 0 G T sz (oX2 T o O ++ oX3 T q S) [.ref (o 0), .ref (q 0), .int (nI r), .int (nI mm)] (oX2 T o (sc (sc (sc (sc (sc O 0 (pFHo S r 3)) 1 (pHe S r)) 2 (pUn S r)) 3 (pCa S r mm)) 4 (pRa S r mm)) ++ oX3 T q S) := by
  refine Met.ofW (cc := cX2_foresee) (maxL := 5) (ret := none) (by decide) rfl ?_
  intro p e s m args below meth c s₁ B hml hv
  obtain ⟨ha, hsz, hP, hK, hD0, hE0⟩ := hv
  have hx := B.exec
  have hb := B.bytes
  have hr := B.returns
  have hlocks := B.notSynchronized
  have hts := atoms_spec (ws := wsX2_foresee) B.pre
  have hown : s.vm.findClass RX2 = some m.cls := findClass_of_methodNamed B.named
  have cx : CallFix p m c cX2_foresee 5 s args wsX2_foresee RX2 := ⟨hx, hb, hml, hown, hts⟩
  subst hsz
  have hD := hD0.self (sz := s.heap.size)
  generalize hAe : va_A (oX2 T o O ++ oX3 T q S) s.heap.size = A at hD hE0 ⊢
  have hE : gE A s s.heap := hE0
  have hA : ∀ q : Nat, s.heap.size ≤ q → A q := fun q h => by rw [← hAe]; exact Or.inr h
  have hS : va_S A s.heap s.heap [] := va_S.rf
  refine w_entry ha (Nat.le_of_ble_eq_true rfl) (fun ls hl => ?_)
  refine w_q (fun Q0 hQ => ?_)
  have lk9 := hts (.fieldLink RX2 9 "WhistleTunes$School" "roomKeys" "[I") (by decide +kernel)
  have hinX3 : ∀ w ∈ wsX30, w ∈ wsX2_foresee := by decide +kernel
  have lk19 := hts (.fieldLink RX2 19 "WhistleTunes$Outcome" "floors" "I") (by decide +kernel)
  have hinX2 : ∀ w ∈ wsX20, w ∈ wsX2_foresee := by decide +kernel
  have lk28 := hts (.fieldLink RX2 28 "WhistleTunes$Outcome" "hearers" "I") (by decide +kernel)
  have lk34 := hts (.fieldLink RX2 34 "WhistleTunes$Outcome" "understanders" "I") (by decide +kernel)
  have lk40 := hts (.fieldLink RX2 40 "WhistleTunes$School" "forbidders" "[I") (by decide +kernel)
  have lk43 := hts (.fieldLink RX2 43 "WhistleTunes$Outcome" "catchers" "I") (by decide +kernel)
  have lk49 := hts (.fieldLink RX2 49 "WhistleTunes$Outcome" "raised" "I") (by decide +kernel)
  have lk46 := hts (.fieldLink RX2 46 "WhistleTunes$School" "keyOfNow" "I") (by decide +kernel)
  have hl : lv_has ls 5 [(0, .ref (o 0)), (1, .ref (q 0)), (2, .int (nI r)), (3, .int (nI mm))] := hl
  have hP : va_P G vwCl [(o 0, .inr (2, [.int (O 0 0), .int (O 0 1), .int (O 0 2), .int (O 0 3), .int (O 0 4)])), (q 0, .inr (3, [.int (S 0 0), .int (S 0 1), .int (S 0 2), .int (S 0 3), .ref (q 5), .ref (q 6), .ref (q 7), .ref (q 8), .ref (q 9), .ref (q 10), .ref (q 11), .ref (q 12), .ref (q 13), .ref (q 14), .ref (q 15), .ref (q 16)])), (q 5, .inl (T 0, 2, .inl (S 5))), (q 6, .inl (T 0, 20, .inl (S 6))), (q 7, .inl (T 0, 160, .inl (S 7))), (q 8, .inl (T 0, 20, .inl (S 8))), (q 9, .inl (T 0, 20, .inl (S 9))), (q 10, .inl (T 0, 20, .inl (S 10))), (q 11, .inl (T 0, 6, .inl (S 11))), (q 12, .inl (T 0, 6, .inl (S 12))), (q 13, .inl (T 0, 6, .inl (S 13))), (q 14, .inl (T 0, 6, .inl (S 14))), (q 15, .inl (T 0, 6, .inl (S 15))), (q 16, .inl (T 0, 2, .inl (S 16)))] s.heap := hP
  have hD : va_D A [(o 0, .inr (2, [.int (O 0 0), .int (O 0 1), .int (O 0 2), .int (O 0 3), .int (O 0 4)])), (q 0, .inr (3, [.int (S 0 0), .int (S 0 1), .int (S 0 2), .int (S 0 3), .ref (q 5), .ref (q 6), .ref (q 7), .ref (q 8), .ref (q 9), .ref (q 10), .ref (q 11), .ref (q 12), .ref (q 13), .ref (q 14), .ref (q 15), .ref (q 16)])), (q 5, .inl (T 0, 2, .inl (S 5))), (q 6, .inl (T 0, 20, .inl (S 6))), (q 7, .inl (T 0, 160, .inl (S 7))), (q 8, .inl (T 0, 20, .inl (S 8))), (q 9, .inl (T 0, 20, .inl (S 9))), (q 10, .inl (T 0, 20, .inl (S 10))), (q 11, .inl (T 0, 6, .inl (S 11))), (q 12, .inl (T 0, 6, .inl (S 12))), (q 13, .inl (T 0, 6, .inl (S 13))), (q 14, .inl (T 0, 6, .inl (S 14))), (q 15, .inl (T 0, 6, .inl (S 15))), (q 16, .inl (T 0, 2, .inl (S 16)))] := hD
  skip
  refine w_h (fun H locs hHe hLe => ?_)
  have hP : va_P G vwCl [(o 0, .inr (2, [.int (O 0 0), .int (O 0 1), .int (O 0 2), .int (O 0 3), .int (O 0 4)])), (q 0, .inr (3, [.int (S 0 0), .int (S 0 1), .int (S 0 2), .int (S 0 3), .ref (q 5), .ref (q 6), .ref (q 7), .ref (q 8), .ref (q 9), .ref (q 10), .ref (q 11), .ref (q 12), .ref (q 13), .ref (q 14), .ref (q 15), .ref (q 16)])), (q 5, .inl (T 0, 2, .inl (S 5))), (q 6, .inl (T 0, 20, .inl (S 6))), (q 7, .inl (T 0, 160, .inl (S 7))), (q 8, .inl (T 0, 20, .inl (S 8))), (q 9, .inl (T 0, 20, .inl (S 9))), (q 10, .inl (T 0, 20, .inl (S 10))), (q 11, .inl (T 0, 6, .inl (S 11))), (q 12, .inl (T 0, 6, .inl (S 12))), (q 13, .inl (T 0, 6, .inl (S 13))), (q 14, .inl (T 0, 6, .inl (S 14))), (q 15, .inl (T 0, 6, .inl (S 15))), (q 16, .inl (T 0, 2, .inl (S 16)))] H := by rw [hHe]; exact hP
  have hS : va_S A s.heap H locs := by rw [hHe, hLe]; exact hS
  refine lv_aload_n hx hb dX2_foresee_0 rfl (lv_at hl 1 rfl) ?_
  refine va_get (D := G) (ci := 3) (v := .ref (q 11)) (C := RX3) (T := TX3) (N := 16) hx hb hts hinX3 hown hK hP 1 rfl rfl 10 (by decide) lk9 (fun _ h9 => h9) rfl dX2_foresee_1 ?_
  refine lv_iload_n hx hb dX2_foresee_4 rfl (lv_at hl 2 rfl) ?_
  refine n_iald hx hb hK hP 8 0 rfl rfl r (by omega) (by decide) dX2_foresee_5 ?_
  refine lv_istore (lv' := [(4, .int ((S 11) r)), (0, .ref (o 0)), (1, .ref (q 0)), (2, .int (nI r)), (3, .int (nI mm))]) hx hb dX2_foresee_6 hl (by decide) rfl (fun ls hl => ?_)
  refine lv_aload_n hx hb dX2_foresee_8 rfl (lv_at hl 1 rfl) ?_
  refine lv_aload_n hx hb dX2_foresee_9 rfl (lv_at hl 2 rfl) ?_
  refine lv_iload_n hx hb dX2_foresee_10 rfl (lv_at hl 3 rfl) ?_
  refine k_roV (As := [.int (nI r)]) (rest := [.ref (o 0)]) (wc := oX3 T q S) (d := 1) (v := pFHo S r 3) cx (c_X3_floorsHearing l G T A q S r (by omega)) (cwV 1 hts gX2_foresee_X3_floorsHearing rfl rfl rfl (by decide +kernel) ⟨Nat.le_of_ble_eq_true rfl, Nat.le_of_ble_eq_true rfl⟩) (hP.sub (ws' := oX3 T q S) [1, 2, 3, 4, 5, 6, 7, 8, 9, 10, 11, 12, 13] rfl) hK (hE.kept hS.2.1) (va_recv hK hP (ci := 3) (q0 := 1) rfl rfl) rfl hl.1 rfl (Nat.le_of_ble_eq_true rfl) dX2_foresee_11 ⟨Nat.le_of_ble_eq_true rfl, Nat.le_of_ble_eq_true rfl⟩ ?_
  refine va_put (D := G) (ci := 2) (v := .int (pFHo S r 3)) (ty := .int) (C := RX2) (T := TX2) (N := 5) hx hb hts hinX2 tyX2 tyX2_ok nmX2 hown hK hP hD hS 0 rfl rfl 0 (by decide) lk19 (fun _ h9 => h9) rfl (by decide +kernel) rfl rfl (Nat.le_of_ble_eq_true rfl) dX2_foresee_14 (fun H locs hP hD hS => ?_)
  have hP : va_P G vwCl [(o 0, .inr (2, [.int (pFHo S r 3), .int (O 0 1), .int (O 0 2), .int (O 0 3), .int (O 0 4)])), (q 0, .inr (3, [.int (S 0 0), .int (S 0 1), .int (S 0 2), .int (S 0 3), .ref (q 5), .ref (q 6), .ref (q 7), .ref (q 8), .ref (q 9), .ref (q 10), .ref (q 11), .ref (q 12), .ref (q 13), .ref (q 14), .ref (q 15), .ref (q 16)])), (q 5, .inl (T 0, 2, .inl (S 5))), (q 6, .inl (T 0, 20, .inl (S 6))), (q 7, .inl (T 0, 160, .inl (S 7))), (q 8, .inl (T 0, 20, .inl (S 8))), (q 9, .inl (T 0, 20, .inl (S 9))), (q 10, .inl (T 0, 20, .inl (S 10))), (q 11, .inl (T 0, 6, .inl (S 11))), (q 12, .inl (T 0, 6, .inl (S 12))), (q 13, .inl (T 0, 6, .inl (S 13))), (q 14, .inl (T 0, 6, .inl (S 14))), (q 15, .inl (T 0, 6, .inl (S 15))), (q 16, .inl (T 0, 2, .inl (S 16)))] H := hP
  have hD : va_D A [(o 0, .inr (2, [.int (pFHo S r 3), .int (O 0 1), .int (O 0 2), .int (O 0 3), .int (O 0 4)])), (q 0, .inr (3, [.int (S 0 0), .int (S 0 1), .int (S 0 2), .int (S 0 3), .ref (q 5), .ref (q 6), .ref (q 7), .ref (q 8), .ref (q 9), .ref (q 10), .ref (q 11), .ref (q 12), .ref (q 13), .ref (q 14), .ref (q 15), .ref (q 16)])), (q 5, .inl (T 0, 2, .inl (S 5))), (q 6, .inl (T 0, 20, .inl (S 6))), (q 7, .inl (T 0, 160, .inl (S 7))), (q 8, .inl (T 0, 20, .inl (S 8))), (q 9, .inl (T 0, 20, .inl (S 9))), (q 10, .inl (T 0, 20, .inl (S 10))), (q 11, .inl (T 0, 6, .inl (S 11))), (q 12, .inl (T 0, 6, .inl (S 12))), (q 13, .inl (T 0, 6, .inl (S 13))), (q 14, .inl (T 0, 6, .inl (S 14))), (q 15, .inl (T 0, 6, .inl (S 15))), (q 16, .inl (T 0, 2, .inl (S 16)))] := hD
  refine lv_aload_n hx hb dX2_foresee_17 rfl (lv_at hl 1 rfl) ?_
  refine lv_aload_n hx hb dX2_foresee_18 rfl (lv_at hl 2 rfl) ?_
  refine lv_aload_n hx hb dX2_foresee_19 rfl (lv_at hl 1 rfl) ?_
  refine va_get (D := G) (ci := 2) (v := .int (pFHo S r 3)) (C := RX2) (T := TX2) (N := 5) hx hb hts hinX2 hown hK hP 0 rfl rfl 0 (by decide) lk19 (fun _ h9 => h9) rfl dX2_foresee_20 ?_
  refine k_roV (As := [.int (pFHo S r 3)]) (rest := [.ref (o 0)]) (wc := oX3 T q S) (d := 1) (v := pRO (pFHo S r 3) 6) cx (c_X3_roomsOn l G T A q S (pFHo S r 3) ) (cwV 1 hts gX2_foresee_X3_roomsOn rfl rfl rfl (by decide +kernel) ⟨Nat.le_of_ble_eq_true rfl, Nat.le_of_ble_eq_true rfl⟩) (hP.sub (ws' := oX3 T q S) [1, 2, 3, 4, 5, 6, 7, 8, 9, 10, 11, 12, 13] rfl) hK (hE.kept hS.2.1) (va_recv hK hP (ci := 3) (q0 := 1) rfl rfl) rfl hl.1 rfl (Nat.le_of_ble_eq_true rfl) dX2_foresee_23 ⟨Nat.le_of_ble_eq_true rfl, Nat.le_of_ble_eq_true rfl⟩ ?_
  refine n_iconst hx hb 1 dX2_foresee_26 (by decide) ?_
  refine lv_iload_n hx hb dX2_foresee_27 rfl (lv_at hl 3 rfl) ?_
  refine x_ishl hx hb dX2_foresee_28 ?_
  refine lv_iconst (v := -1) hx hb dX2_foresee_29 (by decide) ?_
  refine lv_ixor hx hb dX2_foresee_30 ?_
  refine lv_iand hx hb dX2_foresee_31 ?_
  refine va_put (D := G) (ci := 2) (v := .int ((pRO (pFHo S r 3) 6) &&& ((iShl (nI 1) (nI r)) ^^^ (-1)))) (ty := .int) (C := RX2) (T := TX2) (N := 5) hx hb hts hinX2 tyX2 tyX2_ok nmX2 hown hK hP hD hS 0 rfl rfl 1 (by decide) lk28 (fun _ h9 => h9) rfl (by decide +kernel) rfl rfl (Nat.le_of_ble_eq_true rfl) dX2_foresee_32 (fun H locs hP hD hS => ?_)
  have hP : va_P G vwCl [(o 0, .inr (2, [.int (pFHo S r 3), .int ((pRO (pFHo S r 3) 6) &&& ((iShl (nI 1) (nI r)) ^^^ (-1))), .int (O 0 2), .int (O 0 3), .int (O 0 4)])), (q 0, .inr (3, [.int (S 0 0), .int (S 0 1), .int (S 0 2), .int (S 0 3), .ref (q 5), .ref (q 6), .ref (q 7), .ref (q 8), .ref (q 9), .ref (q 10), .ref (q 11), .ref (q 12), .ref (q 13), .ref (q 14), .ref (q 15), .ref (q 16)])), (q 5, .inl (T 0, 2, .inl (S 5))), (q 6, .inl (T 0, 20, .inl (S 6))), (q 7, .inl (T 0, 160, .inl (S 7))), (q 8, .inl (T 0, 20, .inl (S 8))), (q 9, .inl (T 0, 20, .inl (S 9))), (q 10, .inl (T 0, 20, .inl (S 10))), (q 11, .inl (T 0, 6, .inl (S 11))), (q 12, .inl (T 0, 6, .inl (S 12))), (q 13, .inl (T 0, 6, .inl (S 13))), (q 14, .inl (T 0, 6, .inl (S 14))), (q 15, .inl (T 0, 6, .inl (S 15))), (q 16, .inl (T 0, 2, .inl (S 16)))] H := hP
  have hD : va_D A [(o 0, .inr (2, [.int (pFHo S r 3), .int ((pRO (pFHo S r 3) 6) &&& ((iShl (nI 1) (nI r)) ^^^ (-1))), .int (O 0 2), .int (O 0 3), .int (O 0 4)])), (q 0, .inr (3, [.int (S 0 0), .int (S 0 1), .int (S 0 2), .int (S 0 3), .ref (q 5), .ref (q 6), .ref (q 7), .ref (q 8), .ref (q 9), .ref (q 10), .ref (q 11), .ref (q 12), .ref (q 13), .ref (q 14), .ref (q 15), .ref (q 16)])), (q 5, .inl (T 0, 2, .inl (S 5))), (q 6, .inl (T 0, 20, .inl (S 6))), (q 7, .inl (T 0, 160, .inl (S 7))), (q 8, .inl (T 0, 20, .inl (S 8))), (q 9, .inl (T 0, 20, .inl (S 9))), (q 10, .inl (T 0, 20, .inl (S 10))), (q 11, .inl (T 0, 6, .inl (S 11))), (q 12, .inl (T 0, 6, .inl (S 12))), (q 13, .inl (T 0, 6, .inl (S 13))), (q 14, .inl (T 0, 6, .inl (S 14))), (q 15, .inl (T 0, 6, .inl (S 15))), (q 16, .inl (T 0, 2, .inl (S 16)))] := hD
  refine lv_aload_n hx hb dX2_foresee_35 rfl (lv_at hl 1 rfl) ?_
  refine lv_aload_n hx hb dX2_foresee_36 rfl (lv_at hl 1 rfl) ?_
  refine va_get (D := G) (ci := 2) (v := .int ((pRO (pFHo S r 3) 6) &&& ((iShl (nI 1) (nI r)) ^^^ (-1)))) (C := RX2) (T := TX2) (N := 5) hx hb hts hinX2 hown hK hP 0 rfl rfl 1 (by decide) lk28 (fun _ h9 => h9) rfl dX2_foresee_37 ?_
  refine lv_aload_n hx hb dX2_foresee_40 rfl (lv_at hl 2 rfl) ?_
  refine lv_iload hx hb dX2_foresee_41 (lv_at hl 0 rfl) ?_
  refine k_roV (As := [.int ((S 11) r)]) (rest := [.int ((pRO (pFHo S r 3) 6) &&& ((iShl (nI 1) (nI r)) ^^^ (-1))), .ref (o 0)]) (wc := oX3 T q S) (d := 0) (v := pRK S ((S 11) r) 6) cx (c_X3_roomsOfKey l G T A q S ((S 11) r) ) (cwV 1 hts gX2_foresee_X3_roomsOfKey rfl rfl rfl (by decide +kernel) ⟨Nat.le_of_ble_eq_true rfl, Nat.le_of_ble_eq_true rfl⟩) (hP.sub (ws' := oX3 T q S) [1, 2, 3, 4, 5, 6, 7, 8, 9, 10, 11, 12, 13] rfl) hK (hE.kept hS.2.1) (va_recv hK hP (ci := 3) (q0 := 1) rfl rfl) rfl hl.1 rfl (Nat.le_of_ble_eq_true rfl) dX2_foresee_43 ⟨Nat.le_of_ble_eq_true rfl, Nat.le_of_ble_eq_true rfl⟩ ?_
  refine lv_iand hx hb dX2_foresee_46 ?_
  refine va_put (D := G) (ci := 2) (v := .int (((pRO (pFHo S r 3) 6) &&& ((iShl (nI 1) (nI r)) ^^^ (-1))) &&& (pRK S ((S 11) r) 6))) (ty := .int) (C := RX2) (T := TX2) (N := 5) hx hb hts hinX2 tyX2 tyX2_ok nmX2 hown hK hP hD hS 0 rfl rfl 2 (by decide) lk34 (fun _ h9 => h9) rfl (by decide +kernel) rfl rfl (Nat.le_of_ble_eq_true rfl) dX2_foresee_47 (fun H locs hP hD hS => ?_)
  have hP : va_P G vwCl [(o 0, .inr (2, [.int (pFHo S r 3), .int ((pRO (pFHo S r 3) 6) &&& ((iShl (nI 1) (nI r)) ^^^ (-1))), .int (((pRO (pFHo S r 3) 6) &&& ((iShl (nI 1) (nI r)) ^^^ (-1))) &&& (pRK S ((S 11) r) 6)), .int (O 0 3), .int (O 0 4)])), (q 0, .inr (3, [.int (S 0 0), .int (S 0 1), .int (S 0 2), .int (S 0 3), .ref (q 5), .ref (q 6), .ref (q 7), .ref (q 8), .ref (q 9), .ref (q 10), .ref (q 11), .ref (q 12), .ref (q 13), .ref (q 14), .ref (q 15), .ref (q 16)])), (q 5, .inl (T 0, 2, .inl (S 5))), (q 6, .inl (T 0, 20, .inl (S 6))), (q 7, .inl (T 0, 160, .inl (S 7))), (q 8, .inl (T 0, 20, .inl (S 8))), (q 9, .inl (T 0, 20, .inl (S 9))), (q 10, .inl (T 0, 20, .inl (S 10))), (q 11, .inl (T 0, 6, .inl (S 11))), (q 12, .inl (T 0, 6, .inl (S 12))), (q 13, .inl (T 0, 6, .inl (S 13))), (q 14, .inl (T 0, 6, .inl (S 14))), (q 15, .inl (T 0, 6, .inl (S 15))), (q 16, .inl (T 0, 2, .inl (S 16)))] H := hP
  have hD : va_D A [(o 0, .inr (2, [.int (pFHo S r 3), .int ((pRO (pFHo S r 3) 6) &&& ((iShl (nI 1) (nI r)) ^^^ (-1))), .int (((pRO (pFHo S r 3) 6) &&& ((iShl (nI 1) (nI r)) ^^^ (-1))) &&& (pRK S ((S 11) r) 6)), .int (O 0 3), .int (O 0 4)])), (q 0, .inr (3, [.int (S 0 0), .int (S 0 1), .int (S 0 2), .int (S 0 3), .ref (q 5), .ref (q 6), .ref (q 7), .ref (q 8), .ref (q 9), .ref (q 10), .ref (q 11), .ref (q 12), .ref (q 13), .ref (q 14), .ref (q 15), .ref (q 16)])), (q 5, .inl (T 0, 2, .inl (S 5))), (q 6, .inl (T 0, 20, .inl (S 6))), (q 7, .inl (T 0, 160, .inl (S 7))), (q 8, .inl (T 0, 20, .inl (S 8))), (q 9, .inl (T 0, 20, .inl (S 9))), (q 10, .inl (T 0, 20, .inl (S 10))), (q 11, .inl (T 0, 6, .inl (S 11))), (q 12, .inl (T 0, 6, .inl (S 12))), (q 13, .inl (T 0, 6, .inl (S 13))), (q 14, .inl (T 0, 6, .inl (S 14))), (q 15, .inl (T 0, 6, .inl (S 15))), (q 16, .inl (T 0, 2, .inl (S 16)))] := hD
  refine lv_aload_n hx hb dX2_foresee_50 rfl (lv_at hl 1 rfl) ?_
  refine lv_aload_n hx hb dX2_foresee_51 rfl (lv_at hl 2 rfl) ?_
  refine lv_aload_n hx hb dX2_foresee_52 rfl (lv_at hl 1 rfl) ?_
  refine va_get (D := G) (ci := 2) (v := .int (pFHo S r 3)) (C := RX2) (T := TX2) (N := 5) hx hb hts hinX2 hown hK hP 0 rfl rfl 0 (by decide) lk19 (fun _ h9 => h9) rfl dX2_foresee_53 ?_
  refine k_roV (As := [.int (pFHo S r 3)]) (rest := [.ref (o 0)]) (wc := oX3 T q S) (d := 1) (v := pMO S (pFHo S r 3) 3) cx (c_X3_mastersOn l G T A q S (pFHo S r 3) ) (cwV 1 hts gX2_foresee_X3_mastersOn rfl rfl rfl (by decide +kernel) ⟨Nat.le_of_ble_eq_true rfl, Nat.le_of_ble_eq_true rfl⟩) (hP.sub (ws' := oX3 T q S) [1, 2, 3, 4, 5, 6, 7, 8, 9, 10, 11, 12, 13] rfl) hK (hE.kept hS.2.1) (va_recv hK hP (ci := 3) (q0 := 1) rfl rfl) rfl hl.1 rfl (Nat.le_of_ble_eq_true rfl) dX2_foresee_56 ⟨Nat.le_of_ble_eq_true rfl, Nat.le_of_ble_eq_true rfl⟩ ?_
  refine lv_aload_n hx hb dX2_foresee_59 rfl (lv_at hl 2 rfl) ?_
  refine va_get (D := G) (ci := 3) (v := .ref (q 8)) (C := RX3) (T := TX3) (N := 16) hx hb hts hinX3 hown hK hP 1 rfl rfl 7 (by decide) lk40 (fun _ h9 => h9) rfl dX2_foresee_60 ?_
  refine lv_iload_n hx hb dX2_foresee_63 rfl (lv_at hl 4 rfl) ?_
  refine n_iald hx hb hK hP 5 0 rfl rfl mm (by omega) (by decide) dX2_foresee_64 ?_
  refine lv_iand hx hb dX2_foresee_65 ?_
  refine va_put (D := G) (ci := 2) (v := .int ((pMO S (pFHo S r 3) 3) &&& ((S 8) mm))) (ty := .int) (C := RX2) (T := TX2) (N := 5) hx hb hts hinX2 tyX2 tyX2_ok nmX2 hown hK hP hD hS 0 rfl rfl 3 (by decide) lk43 (fun _ h9 => h9) rfl (by decide +kernel) rfl rfl (Nat.le_of_ble_eq_true rfl) dX2_foresee_66 (fun H locs hP hD hS => ?_)
  have hP : va_P G vwCl [(o 0, .inr (2, [.int (pFHo S r 3), .int ((pRO (pFHo S r 3) 6) &&& ((iShl (nI 1) (nI r)) ^^^ (-1))), .int (((pRO (pFHo S r 3) 6) &&& ((iShl (nI 1) (nI r)) ^^^ (-1))) &&& (pRK S ((S 11) r) 6)), .int ((pMO S (pFHo S r 3) 3) &&& ((S 8) mm)), .int (O 0 4)])), (q 0, .inr (3, [.int (S 0 0), .int (S 0 1), .int (S 0 2), .int (S 0 3), .ref (q 5), .ref (q 6), .ref (q 7), .ref (q 8), .ref (q 9), .ref (q 10), .ref (q 11), .ref (q 12), .ref (q 13), .ref (q 14), .ref (q 15), .ref (q 16)])), (q 5, .inl (T 0, 2, .inl (S 5))), (q 6, .inl (T 0, 20, .inl (S 6))), (q 7, .inl (T 0, 160, .inl (S 7))), (q 8, .inl (T 0, 20, .inl (S 8))), (q 9, .inl (T 0, 20, .inl (S 9))), (q 10, .inl (T 0, 20, .inl (S 10))), (q 11, .inl (T 0, 6, .inl (S 11))), (q 12, .inl (T 0, 6, .inl (S 12))), (q 13, .inl (T 0, 6, .inl (S 13))), (q 14, .inl (T 0, 6, .inl (S 14))), (q 15, .inl (T 0, 6, .inl (S 15))), (q 16, .inl (T 0, 2, .inl (S 16)))] H := hP
  have hD : va_D A [(o 0, .inr (2, [.int (pFHo S r 3), .int ((pRO (pFHo S r 3) 6) &&& ((iShl (nI 1) (nI r)) ^^^ (-1))), .int (((pRO (pFHo S r 3) 6) &&& ((iShl (nI 1) (nI r)) ^^^ (-1))) &&& (pRK S ((S 11) r) 6)), .int ((pMO S (pFHo S r 3) 3) &&& ((S 8) mm)), .int (O 0 4)])), (q 0, .inr (3, [.int (S 0 0), .int (S 0 1), .int (S 0 2), .int (S 0 3), .ref (q 5), .ref (q 6), .ref (q 7), .ref (q 8), .ref (q 9), .ref (q 10), .ref (q 11), .ref (q 12), .ref (q 13), .ref (q 14), .ref (q 15), .ref (q 16)])), (q 5, .inl (T 0, 2, .inl (S 5))), (q 6, .inl (T 0, 20, .inl (S 6))), (q 7, .inl (T 0, 160, .inl (S 7))), (q 8, .inl (T 0, 20, .inl (S 8))), (q 9, .inl (T 0, 20, .inl (S 9))), (q 10, .inl (T 0, 20, .inl (S 10))), (q 11, .inl (T 0, 6, .inl (S 11))), (q 12, .inl (T 0, 6, .inl (S 12))), (q 13, .inl (T 0, 6, .inl (S 13))), (q 14, .inl (T 0, 6, .inl (S 14))), (q 15, .inl (T 0, 6, .inl (S 15))), (q 16, .inl (T 0, 2, .inl (S 16)))] := hD
  refine lv_aload_n hx hb dX2_foresee_69 rfl (lv_at hl 1 rfl) ?_
  refine lv_iload_n hx hb dX2_foresee_70 rfl (lv_at hl 4 rfl) ?_
  refine lv_bipush (v := nI 12) hx hb dX2_foresee_71 (by decide) ?_
  have J_1 : ∀ y9 : Int32, y9 = (pRa S r mm) → W p l e (headSpec wsX2_foresee (rmD 2 0 0)).room s m args below meth c H locs 0 0 Q0 (F0 m 93 ls (.int y9 :: .ref (o 0) :: [])) := by
    intro y9 hy9
    subst hy9
    refine va_put (D := G) (ci := 2) (v := .int (pRa S r mm)) (ty := .int) (C := RX2) (T := TX2) (N := 5) hx hb hts hinX2 tyX2 tyX2_ok nmX2 hown hK hP hD hS 0 rfl rfl 4 (by decide) lk49 (fun _ h9 => h9) rfl (by decide +kernel) rfl rfl (Nat.le_of_ble_eq_true rfl) dX2_foresee_93 (fun H locs hP hD hS => ?_)
    have hP : va_P G vwCl [(o 0, .inr (2, [.int (pFHo S r 3), .int ((pRO (pFHo S r 3) 6) &&& ((iShl (nI 1) (nI r)) ^^^ (-1))), .int (((pRO (pFHo S r 3) 6) &&& ((iShl (nI 1) (nI r)) ^^^ (-1))) &&& (pRK S ((S 11) r) 6)), .int ((pMO S (pFHo S r 3) 3) &&& ((S 8) mm)), .int (pRa S r mm)])), (q 0, .inr (3, [.int (S 0 0), .int (S 0 1), .int (S 0 2), .int (S 0 3), .ref (q 5), .ref (q 6), .ref (q 7), .ref (q 8), .ref (q 9), .ref (q 10), .ref (q 11), .ref (q 12), .ref (q 13), .ref (q 14), .ref (q 15), .ref (q 16)])), (q 5, .inl (T 0, 2, .inl (S 5))), (q 6, .inl (T 0, 20, .inl (S 6))), (q 7, .inl (T 0, 160, .inl (S 7))), (q 8, .inl (T 0, 20, .inl (S 8))), (q 9, .inl (T 0, 20, .inl (S 9))), (q 10, .inl (T 0, 20, .inl (S 10))), (q 11, .inl (T 0, 6, .inl (S 11))), (q 12, .inl (T 0, 6, .inl (S 12))), (q 13, .inl (T 0, 6, .inl (S 13))), (q 14, .inl (T 0, 6, .inl (S 14))), (q 15, .inl (T 0, 6, .inl (S 15))), (q 16, .inl (T 0, 2, .inl (S 16)))] H := hP
    have hD : va_D A [(o 0, .inr (2, [.int (pFHo S r 3), .int ((pRO (pFHo S r 3) 6) &&& ((iShl (nI 1) (nI r)) ^^^ (-1))), .int (((pRO (pFHo S r 3) 6) &&& ((iShl (nI 1) (nI r)) ^^^ (-1))) &&& (pRK S ((S 11) r) 6)), .int ((pMO S (pFHo S r 3) 3) &&& ((S 8) mm)), .int (pRa S r mm)])), (q 0, .inr (3, [.int (S 0 0), .int (S 0 1), .int (S 0 2), .int (S 0 3), .ref (q 5), .ref (q 6), .ref (q 7), .ref (q 8), .ref (q 9), .ref (q 10), .ref (q 11), .ref (q 12), .ref (q 13), .ref (q 14), .ref (q 15), .ref (q 16)])), (q 5, .inl (T 0, 2, .inl (S 5))), (q 6, .inl (T 0, 20, .inl (S 6))), (q 7, .inl (T 0, 160, .inl (S 7))), (q 8, .inl (T 0, 20, .inl (S 8))), (q 9, .inl (T 0, 20, .inl (S 9))), (q 10, .inl (T 0, 20, .inl (S 10))), (q 11, .inl (T 0, 6, .inl (S 11))), (q 12, .inl (T 0, 6, .inl (S 12))), (q 13, .inl (T 0, 6, .inl (S 13))), (q 14, .inl (T 0, 6, .inl (S 14))), (q 15, .inl (T 0, 6, .inl (S 15))), (q 16, .inl (T 0, 2, .inl (S 16)))] := hD
    subst hQ
    have e_2 : (pRO (pFHo S r 3) 6) &&& ((iShl (nI 1) (nI r)) ^^^ (-1)) = pHe S r := rfl
    have e_3 : ((pRO (pFHo S r 3) 6) &&& ((iShl (nI 1) (nI r)) ^^^ (-1))) &&& (pRK S ((S 11) r) 6) = pUn S r := rfl
    have e_4 : (pMO S (pFHo S r 3) 3) &&& ((S 8) mm) = pCa S r mm := rfl
    rw [e_3, e_2, e_4] at hP hD
    have hP9 : va_P G vwCl (oX2 T o (sc (sc (sc (sc (sc O 0 (pFHo S r 3)) 1 (pHe S r)) 2 (pUn S r)) 3 (pCa S r mm)) 4 (pRa S r mm)) ++ oX3 T q S) H := hP
    have hD9 : va_D A (oX2 T o (sc (sc (sc (sc (sc O 0 (pFHo S r 3)) 1 (pHe S r)) 2 (pUn S r)) 3 (pCa S r mm)) 4 (pRa S r mm)) ++ oX3 T q S) := hD
    exact e_rwv hx hb hr hlocks hS hP9 hD9 dX2_foresee_96
  refine n_icmp_lt (a := mm) (b := 12) (tgt := 92) hx hb (by omega) (by decide) dX2_foresee_73 (by decide) (fun c_5 => ?_) (fun c_6 => ?_)
  · skip
    refine n_iconst hx hb 0 dX2_foresee_92 (by decide) ?_
    exact J_1 _ (by first | exact (if_pos (c := 12 ≤ mm ∧ S 11 r = S 0 1) ⟨by omega, by assumption⟩).symm | exact (if_neg (c := 12 ≤ mm ∧ S 11 r = S 0 1) (by rintro ⟨h1, h2⟩; first | omega | contradiction)).symm)
  · skip
    refine lv_iload hx hb dX2_foresee_76 (lv_at hl 0 rfl) ?_
    refine lv_aload_n hx hb dX2_foresee_78 rfl (lv_at hl 2 rfl) ?_
    refine va_get (D := G) (ci := 3) (v := .int (S 0 1)) (C := RX3) (T := TX3) (N := 16) hx hb hts hinX3 hown hK hP 1 rfl rfl 1 (by decide) lk46 (fun _ h9 => h9) rfl dX2_foresee_79 ?_
    refine lv_icmp_ne (tgt := 92) hx hb dX2_foresee_82 (by decide) (fun c_7 => ?_) (fun c_8 => ?_)
    · skip
      refine n_iconst hx hb 0 dX2_foresee_92 (by decide) ?_
      exact J_1 _ (by first | exact (if_pos (c := 12 ≤ mm ∧ S 11 r = S 0 1) ⟨by omega, by assumption⟩).symm | exact (if_neg (c := 12 ≤ mm ∧ S 11 r = S 0 1) (by rintro ⟨h1, h2⟩; first | omega | contradiction)).symm)
    · skip
      refine lv_aload_n hx hb dX2_foresee_85 rfl (lv_at hl 1 rfl) ?_
      refine va_get (D := G) (ci := 2) (v := .int (((pRO (pFHo S r 3) 6) &&& ((iShl (nI 1) (nI r)) ^^^ (-1))) &&& (pRK S ((S 11) r) 6))) (C := RX2) (T := TX2) (N := 5) hx hb hts hinX2 hown hK hP 0 rfl rfl 2 (by decide) lk34 (fun _ h9 => h9) rfl dX2_foresee_86 ?_
      refine lv_goto (tgt := 93) hx hb dX2_foresee_89 (by decide) ?_
      exact J_1 _ (by first | exact (if_pos (c := 12 ≤ mm ∧ S 11 r = S 0 1) ⟨by omega, by assumption⟩).symm | exact (if_neg (c := 12 ≤ mm ∧ S 11 r = S 0 1) (by rintro ⟨h1, h2⟩; first | omega | contradiction)).symm)
set_option maxHeartbeats 4000000 in
set_option maxRecDepth 100000 in
theorem c_X5_empty (l : Launch) (G : va_G) (T : Nat → ClassId) (sz : Nat) (q : Nat → Nat) (S : Nat → Nat → Int32) : RWv l yX5_empty wsX5_empty 0 0 0 G T sz (oX5 T q S) [.ref (q 0)] (oX5 T q (sc S 1 (nI 0))) := by
  refine Met.ofW (cc := cX5_empty) (maxL := 1) (ret := none) (by decide) rfl ?_
  intro p e s m args below meth c s₁ B hml hv
  obtain ⟨ha, hsz, hP, hK, hD0, hE0⟩ := hv
  have hx := B.exec
  have hb := B.bytes
  have hr := B.returns
  have hlocks := B.notSynchronized
  have hts := atoms_spec (ws := wsX5_empty) B.pre
  have hown : s.vm.findClass RX5 = some m.cls := findClass_of_methodNamed B.named
  have cx : CallFix p m c cX5_empty 1 s args wsX5_empty RX5 := ⟨hx, hb, hml, hown, hts⟩
  subst hsz
  have hD := hD0.self (sz := s.heap.size)
  generalize hAe : va_A (oX5 T q S) s.heap.size = A at hD hE0 ⊢
  have hE : gE A s s.heap := hE0
  have hA : ∀ q : Nat, s.heap.size ≤ q → A q := fun q h => by rw [← hAe]; exact Or.inr h
  have hS : va_S A s.heap s.heap [] := va_S.rf
  refine w_entry ha (Nat.le_of_ble_eq_true rfl) (fun ls hl => ?_)
  refine w_q (fun Q0 hQ => ?_)
  have lk15 := hts (.fieldLink RX5 15 "WhistleTunes$Text" "length" "I") (by decide +kernel)
  have hinX5 : ∀ w ∈ wsX50, w ∈ wsX5_empty := by decide +kernel
  have hl : lv_has ls 1 [(0, .ref (q 0))] := hl
  have hP : va_P G vwCl [(q 0, .inr (5, [.ref (q 1), .int (S 0 1)])), (q 1, .inl (T 1, 60, .inl (S 1)))] s.heap := hP
  have hD : va_D A [(q 0, .inr (5, [.ref (q 1), .int (S 0 1)])), (q 1, .inl (T 1, 60, .inl (S 1)))] := hD
  skip
  refine w_h (fun H locs hHe hLe => ?_)
  have hP : va_P G vwCl [(q 0, .inr (5, [.ref (q 1), .int (S 0 1)])), (q 1, .inl (T 1, 60, .inl (S 1)))] H := by rw [hHe]; exact hP
  have hS : va_S A s.heap H locs := by rw [hHe, hLe]; exact hS
  refine lv_aload_n hx hb dX5_empty_0 rfl (lv_at hl 0 rfl) ?_
  refine n_iconst hx hb 0 dX5_empty_1 (by decide) ?_
  refine va_put (D := G) (ci := 5) (v := .int (nI 0)) (ty := .int) (C := RX5) (T := TX5) (N := 2) hx hb hts hinX5 tyX5 tyX5_ok nmX5 hown hK hP hD hS 0 rfl rfl 1 (by decide) lk15 (fun _ h9 => h9) rfl (by decide +kernel) rfl rfl (Nat.le_of_ble_eq_true rfl) dX5_empty_2 (fun H locs hP hD hS => ?_)
  have hP : va_P G vwCl [(q 0, .inr (5, [.ref (q 1), .int (nI 0)])), (q 1, .inl (T 1, 60, .inl (S 1)))] H := hP
  have hD : va_D A [(q 0, .inr (5, [.ref (q 1), .int (nI 0)])), (q 1, .inl (T 1, 60, .inl (S 1)))] := hD
  subst hQ
  have hP9 : va_P G vwCl (oX5 T q (sc S 1 (nI 0))) H := hP
  have hD9 : va_D A (oX5 T q (sc S 1 (nI 0))) := hD
  exact e_rwv hx hb hr hlocks hS hP9 hD9 dX5_empty_5
set_option maxHeartbeats 4000000 in
set_option maxRecDepth 100000 in
theorem c_X5_add (l : Launch) (G : va_G) (T : Nat → ClassId) (sz : Nat) (q : Nat → Nat) (S : Nat → Nat → Int32) (cc : Nat) (n : Nat) (hlen : S 0 1 = nI n) (hn60 : n ≤ 60) (hn59 : n < 60) (hc : cc < 65536) : RWv l yX5_add wsX5_add 0 0 0 G T sz (oX5 T q S) [.ref (q 0), .int (nI cc)] (oX5 T q (sa (sc S 1 (nI (n + 1))) 1 (upd (S 1) n (nI cc)))) := by
  refine Met.ofW (cc := cX5_add) (maxL := 2) (ret := none) (by decide) rfl ?_
  intro p e s m args below meth c s₁ B hml hv
  obtain ⟨ha, hsz, hP, hK, hD0, hE0⟩ := hv
  have hx := B.exec
  have hb := B.bytes
  have hr := B.returns
  have hlocks := B.notSynchronized
  have hts := atoms_spec (ws := wsX5_add) B.pre
  have hown : s.vm.findClass RX5 = some m.cls := findClass_of_methodNamed B.named
  have cx : CallFix p m c cX5_add 2 s args wsX5_add RX5 := ⟨hx, hb, hml, hown, hts⟩
  subst hsz
  have hD := hD0.self (sz := s.heap.size)
  generalize hAe : va_A (oX5 T q S) s.heap.size = A at hD hE0 ⊢
  have hE : gE A s s.heap := hE0
  have hA : ∀ q : Nat, s.heap.size ≤ q → A q := fun q h => by rw [← hAe]; exact Or.inr h
  have hS : va_S A s.heap s.heap [] := va_S.rf
  refine w_entry ha (Nat.le_of_ble_eq_true rfl) (fun ls hl => ?_)
  refine w_q (fun Q0 hQ => ?_)
  have lk15 := hts (.fieldLink RX5 15 "WhistleTunes$Text" "length" "I") (by decide +kernel)
  have hinX5 : ∀ w ∈ wsX50, w ∈ wsX5_add := by decide +kernel
  have lk9 := hts (.fieldLink RX5 9 "WhistleTunes$Text" "codes" "[C") (by decide +kernel)
  have hl : lv_has ls 2 [(0, .ref (q 0)), (1, .int (nI cc))] := hl
  have hP : va_P G vwCl [(q 0, .inr (5, [.ref (q 1), .int (S 0 1)])), (q 1, .inl (T 1, 60, .inl (S 1)))] s.heap := hP
  have hD : va_D A [(q 0, .inr (5, [.ref (q 1), .int (S 0 1)])), (q 1, .inl (T 1, 60, .inl (S 1)))] := hD
  skip
  refine w_h (fun H locs hHe hLe => ?_)
  have hP : va_P G vwCl [(q 0, .inr (5, [.ref (q 1), .int (S 0 1)])), (q 1, .inl (T 1, 60, .inl (S 1)))] H := by rw [hHe]; exact hP
  have hS : va_S A s.heap H locs := by rw [hHe, hLe]; exact hS
  refine lv_aload_n hx hb dX5_add_0 rfl (lv_at hl 0 rfl) ?_
  refine va_get (D := G) (ci := 5) (v := .int (S 0 1)) (C := RX5) (T := TX5) (N := 2) hx hb hts hinX5 hown hK hP 0 rfl rfl 1 (by decide) lk15 (fun _ h9 => h9) rfl dX5_add_1 ?_
  refine n_top (y := nI n) hlen ?_
  refine lv_bipush (v := nI 60) hx hb dX5_add_4 (by decide) ?_
  refine n_icmp_ge (a := n) (b := 60) (tgt := 29) hx hb (by omega) (by decide) dX5_add_6 (by decide) (fun c_1 => by exfalso; omega) (fun c_2 => ?_)
  refine lv_aload_n hx hb dX5_add_9 rfl (lv_at hl 0 rfl) ?_
  refine va_get (D := G) (ci := 5) (v := .ref (q 1)) (C := RX5) (T := TX5) (N := 2) hx hb hts hinX5 hown hK hP 0 rfl rfl 0 (by decide) lk9 (fun _ h9 => h9) rfl dX5_add_10 ?_
  refine lv_aload_n hx hb dX5_add_13 rfl (lv_at hl 0 rfl) ?_
  refine va_get (D := G) (ci := 5) (v := .int (S 0 1)) (C := RX5) (T := TX5) (N := 2) hx hb hts hinX5 hown hK hP 0 rfl rfl 1 (by decide) lk15 (fun _ h9 => h9) rfl dX5_add_14 ?_
  refine n_top (y := nI n) hlen ?_
  refine lv_iload_n hx hb dX5_add_17 rfl (lv_at hl 1 rfl) ?_
  refine n_cast hx hb hK hP hD hS 1 1 rfl rfl n (by omega) (by decide) (vp_charN hc) dX5_add_18 (fun H locs hP hD hS => ?_)
  have hP : va_P G vwCl [(q 0, .inr (5, [.ref (q 1), .int (S 0 1)])), (q 1, .inl (T 1, 60, .inl (upd (S 1) n (nI cc))))] H := hP
  have hD : va_D A [(q 0, .inr (5, [.ref (q 1), .int (S 0 1)])), (q 1, .inl (T 1, 60, .inl (upd (S 1) n (nI cc))))] := hD
  refine lv_aload_n hx hb dX5_add_19 rfl (lv_at hl 0 rfl) ?_
  refine lv_dup hx hb dX5_add_20 rfl ?_
  refine va_get (D := G) (ci := 5) (v := .int (S 0 1)) (C := RX5) (T := TX5) (N := 2) hx hb hts hinX5 hown hK hP 0 rfl rfl 1 (by decide) lk15 (fun _ h9 => h9) rfl dX5_add_21 ?_
  refine n_top (y := nI n) hlen ?_
  refine n_iconst hx hb 1 dX5_add_24 (by decide) ?_
  refine n_iadd (a := n) (b := 1) hx hb dX5_add_25 ?_
  refine va_put (D := G) (ci := 5) (v := .int (nI (n + 1))) (ty := .int) (C := RX5) (T := TX5) (N := 2) hx hb hts hinX5 tyX5 tyX5_ok nmX5 hown hK hP hD hS 0 rfl rfl 1 (by decide) lk15 (fun _ h9 => h9) rfl (by decide +kernel) rfl rfl (Nat.le_of_ble_eq_true rfl) dX5_add_26 (fun H locs hP hD hS => ?_)
  have hP : va_P G vwCl [(q 0, .inr (5, [.ref (q 1), .int (nI (n + 1))])), (q 1, .inl (T 1, 60, .inl (upd (S 1) n (nI cc))))] H := hP
  have hD : va_D A [(q 0, .inr (5, [.ref (q 1), .int (nI (n + 1))])), (q 1, .inl (T 1, 60, .inl (upd (S 1) n (nI cc))))] := hD
  subst hQ
  have hP9 : va_P G vwCl (oX5 T q (sa (sc S 1 (nI (n + 1))) 1 (upd (S 1) n (nI cc)))) H := hP
  have hD9 : va_D A (oX5 T q (sa (sc S 1 (nI (n + 1))) 1 (upd (S 1) n (nI cc)))) := hD
  exact e_rwv hx hb hr hlocks hS hP9 hD9 dX5_add_29
set_option maxHeartbeats 4000000 in
set_option maxRecDepth 100000 in
theorem c_X5_at (l : Launch) (G : va_G) (T : Nat → ClassId) (A : Nat → Prop) (q : Nat → Nat) (S : Nat → Nat → Int32) (i : Nat) (n : Nat) (cd : Nat → Nat) (hlen : S 0 1 = nI n) (hn60 : n ≤ 60) (hcd : ∀ i : Nat, i < n → S 1 i = nI (cd i)) (hc127 : ∀ i : Nat, i < n → cd i < 127) (hi : i < 2 ^ 31) : RO l yX5_at wsX5_at 0 G T A (oX5 T q S) [.ref (q 0), .int (nI i)] (nI (pAt cd n i)) := by
  refine Met.ofW (cc := cX5_at) (maxL := 2) (ret := (some .char)) (by decide) rfl ?_
  intro p e s m args below meth c s₁ B hml hv
  obtain ⟨ha, hP, hK, hE⟩ := hv
  have hx := B.exec
  have hb := B.bytes
  have hr := B.returns
  have hlocks := B.notSynchronized
  have hts := atoms_spec (ws := wsX5_at) B.pre
  have hown : s.vm.findClass RX5 = some m.cls := findClass_of_methodNamed B.named
  have cx : CallFix p m c cX5_at 2 s args wsX5_at RX5 := ⟨hx, hb, hml, hown, hts⟩
  refine w_entry ha (Nat.le_of_ble_eq_true rfl) (fun ls hl => ?_)
  refine w_q (fun Q0 hQ => ?_)
  have lk15 := hts (.fieldLink RX5 15 "WhistleTunes$Text" "length" "I") (by decide +kernel)
  have hinX5 : ∀ w ∈ wsX50, w ∈ wsX5_at := by decide +kernel
  have lk9 := hts (.fieldLink RX5 9 "WhistleTunes$Text" "codes" "[C") (by decide +kernel)
  have hl : lv_has ls 2 [(0, .ref (q 0)), (1, .int (nI i))] := hl
  have hP : va_P G vwCl [(q 0, .inr (5, [.ref (q 1), .int (S 0 1)])), (q 1, .inl (T 1, 60, .inl (S 1)))] s.heap := hP
  refine lv_iload_n hx hb dX5_at_0 rfl (lv_at hl 1 rfl) ?_
  refine n_if_lt (a := i) hx hb (by omega) dX5_at_1 21 (by decide) ?_
  refine lv_iload_n hx hb dX5_at_4 rfl (lv_at hl 1 rfl) ?_
  refine lv_aload_n hx hb dX5_at_5 rfl (lv_at hl 0 rfl) ?_
  refine va_get (D := G) (ci := 5) (v := .int (S 0 1)) (C := RX5) (T := TX5) (N := 2) hx hb hts hinX5 hown hK hP 0 rfl rfl 1 (by decide) lk15 (fun _ h9 => h9) rfl dX5_at_6 ?_
  refine n_top (y := nI n) hlen ?_
  refine n_icmp_ge (a := i) (b := n) (tgt := 21) hx hb (by omega) (by omega) dX5_at_9 (by decide) (fun c_1 => ?_) (fun c_2 => ?_)
  · skip
    refine n_iconst hx hb 0 dX5_at_21 (by decide) ?_
    subst hQ
    exact e_roz hx hb hr hlocks (by first | rfl | (rw [hcd i (by omega)]; exact (pk_charN (by have := hc127 i (by omega); omega)).1)) (by unfold pAt; first | rw [if_neg (by omega)] | (rw [if_pos (by omega)]; exact hcd i (by omega))) dX5_at_22
  · skip
    refine lv_aload_n hx hb dX5_at_12 rfl (lv_at hl 0 rfl) ?_
    refine va_get (D := G) (ci := 5) (v := .ref (q 1)) (C := RX5) (T := TX5) (N := 2) hx hb hts hinX5 hown hK hP 0 rfl rfl 0 (by decide) lk9 (fun _ h9 => h9) rfl dX5_at_13 ?_
    refine lv_iload_n hx hb dX5_at_16 rfl (lv_at hl 1 rfl) ?_
    refine n_cald hx hb hK hP 1 1 rfl rfl i (by omega) (by decide) dX5_at_17 ?_
    refine lv_goto (tgt := 22) hx hb dX5_at_18 (by decide) ?_
    subst hQ
    exact e_roz hx hb hr hlocks (by first | rfl | (rw [hcd i (by omega)]; exact (pk_charN (by have := hc127 i (by omega); omega)).1)) (by unfold pAt; first | rw [if_neg (by omega)] | (rw [if_pos (by omega)]; exact hcd i (by omega))) dX5_at_22

set_option maxHeartbeats 4000000 in
set_option maxRecDepth 100000 in
theorem c_X6_isOfTuneLength (l : Launch) (G : va_G) (T : Nat → ClassId) (A : Nat → Prop) (q : Nat → Nat) (S : Nat → Nat → Int32) (n : Nat) (hlen : S 0 2 = nI n) (hn9 : n ≤ 9) : RO l yX6_isOfTuneLength wsX6_isOfTuneLength 0 G T A (oX6 T q S) [.ref (q 0)] (bI (decide (2 ≤ n ∧ n ≤ 8))) := by
  refine Met.ofW (cc := cX6_isOfTuneLength) (maxL := 1) (ret := (some .boolean)) (by decide) rfl ?_
  intro p e s m args below meth c s₁ B hml hv
  obtain ⟨ha, hP, hK, hE⟩ := hv
  have hx := B.exec
  have hb := B.bytes
  have hr := B.returns
  have hlocks := B.notSynchronized
  have hts := atoms_spec (ws := wsX6_isOfTuneLength) B.pre
  have hown : s.vm.findClass RX6 = some m.cls := findClass_of_methodNamed B.named
  have cx : CallFix p m c cX6_isOfTuneLength 1 s args wsX6_isOfTuneLength RX6 := ⟨hx, hb, hml, hown, hts⟩
  refine w_entry ha (Nat.le_of_ble_eq_true rfl) (fun ls hl => ?_)
  refine w_q (fun Q0 hQ => ?_)
  have lk18 := hts (.fieldLink RX6 18 "WhistleTunes$Tune" "length" "I") (by decide +kernel)
  have hinX6 : ∀ w ∈ wsX60, w ∈ wsX6_isOfTuneLength := by decide +kernel
  have hl : lv_has ls 1 [(0, .ref (q 0))] := hl
  have hP : va_P G vwCl [(q 0, .inr (6, [.ref (q 1), .ref (q 2), .int (S 0 2)])), (q 1, .inl (T 0, 9, .inl (S 1))), (q 2, .inl (T 0, 3, .inl (S 2)))] s.heap := hP
  refine lv_aload_n hx hb dX6_isOfTuneLength_0 rfl (lv_at hl 0 rfl) ?_
  refine va_get (D := G) (ci := 6) (v := .int (S 0 2)) (C := RX6) (T := TX6) (N := 3) hx hb hts hinX6 hown hK hP 0 rfl rfl 2 (by decide) lk18 (fun _ h9 => h9) rfl dX6_isOfTuneLength_1 ?_
  refine n_top (y := nI n) hlen ?_
  refine n_iconst hx hb 2 dX6_isOfTuneLength_4 (by decide) ?_
  refine n_icmp_lt (a := n) (b := 2) (tgt := 21) hx hb (by omega) (by decide) dX6_isOfTuneLength_5 (by decide) (fun c_1 => ?_) (fun c_2 => ?_)
  · skip
    refine n_iconst hx hb 0 dX6_isOfTuneLength_21 (by decide) ?_
    subst hQ
    exact e_roz hx hb hr hlocks (by first | rfl | exact nar_b _) (by first | (rw [decide_eq_true (by omega)]; rfl) | (rw [decide_eq_false (by omega)]; rfl)) dX6_isOfTuneLength_22
  · skip
    refine lv_aload_n hx hb dX6_isOfTuneLength_8 rfl (lv_at hl 0 rfl) ?_
    refine va_get (D := G) (ci := 6) (v := .int (S 0 2)) (C := RX6) (T := TX6) (N := 3) hx hb hts hinX6 hown hK hP 0 rfl rfl 2 (by decide) lk18 (fun _ h9 => h9) rfl dX6_isOfTuneLength_9 ?_
    refine n_top (y := nI n) hlen ?_
    refine lv_bipush (v := nI 8) hx hb dX6_isOfTuneLength_12 (by decide) ?_
    refine n_icmp_gt (a := n) (b := 8) (tgt := 21) hx hb (by omega) (by decide) dX6_isOfTuneLength_14 (by decide) (fun c_3 => ?_) (fun c_4 => ?_)
    · skip
      refine n_iconst hx hb 0 dX6_isOfTuneLength_21 (by decide) ?_
      subst hQ
      exact e_roz hx hb hr hlocks (by first | rfl | exact nar_b _) (by first | (rw [decide_eq_true (by omega)]; rfl) | (rw [decide_eq_false (by omega)]; rfl)) dX6_isOfTuneLength_22
    · skip
      refine n_iconst hx hb 1 dX6_isOfTuneLength_17 (by decide) ?_
      refine lv_goto (tgt := 22) hx hb dX6_isOfTuneLength_18 (by decide) ?_
      subst hQ
      exact e_roz hx hb hr hlocks (by first | rfl | exact nar_b _) (by first | (rw [decide_eq_true (by omega)]; rfl) | (rw [decide_eq_false (by omega)]; rfl)) dX6_isOfTuneLength_22
set_option maxHeartbeats 4000000 in
set_option maxRecDepth 100000 in
theorem c_X6_shapeAt (l : Launch) (G : va_G) (T : Nat → ClassId) (A : Nat → Prop) (q : Nat → Nat) (S : Nat → Nat → Int32) (k : Nat) (hk9 : k < 9) : RO l yX6_shapeAt wsX6_shapeAt 1 G T A (oX6 T q S) [.ref (q 0), .int (nI k)] (pFM (S 1 k - S 1 0) (nI 7)) := by
  refine Met.ofW (cc := cX6_shapeAt) (maxL := 2) (ret := (some .int)) (by decide) rfl ?_
  intro p e s m args below meth c s₁ B hml hv
  obtain ⟨ha, hP, hK, hE⟩ := hv
  have hx := B.exec
  have hb := B.bytes
  have hr := B.returns
  have hlocks := B.notSynchronized
  have hts := atoms_spec (ws := wsX6_shapeAt) B.pre
  have hown : s.vm.findClass RX6 = some m.cls := findClass_of_methodNamed B.named
  have cx : CallFix p m c cX6_shapeAt 2 s args wsX6_shapeAt RX6 := ⟨hx, hb, hml, hown, hts⟩
  refine w_entry ha (Nat.le_of_ble_eq_true rfl) (fun ls hl => ?_)
  refine w_q (fun Q0 hQ => ?_)
  have lk11 := hts (.fieldLink RX6 11 "WhistleTunes$Tune" "notes" "[I") (by decide +kernel)
  have hinX6 : ∀ w ∈ wsX60, w ∈ wsX6_shapeAt := by decide +kernel
  have hl : lv_has ls 2 [(0, .ref (q 0)), (1, .int (nI k))] := hl
  have hP : va_P G vwCl [(q 0, .inr (6, [.ref (q 1), .ref (q 2), .int (S 0 2)])), (q 1, .inl (T 0, 9, .inl (S 1))), (q 2, .inl (T 0, 3, .inl (S 2)))] s.heap := hP
  refine lv_aload_n hx hb dX6_shapeAt_0 rfl (lv_at hl 0 rfl) ?_
  refine va_get (D := G) (ci := 6) (v := .ref (q 1)) (C := RX6) (T := TX6) (N := 3) hx hb hts hinX6 hown hK hP 0 rfl rfl 0 (by decide) lk11 (fun _ h9 => h9) rfl dX6_shapeAt_1 ?_
  refine lv_iload_n hx hb dX6_shapeAt_4 rfl (lv_at hl 1 rfl) ?_
  refine n_iald hx hb hK hP 1 0 rfl rfl k (by omega) (by decide) dX6_shapeAt_5 ?_
  refine lv_aload_n hx hb dX6_shapeAt_6 rfl (lv_at hl 0 rfl) ?_
  refine va_get (D := G) (ci := 6) (v := .ref (q 1)) (C := RX6) (T := TX6) (N := 3) hx hb hts hinX6 hown hK hP 0 rfl rfl 0 (by decide) lk11 (fun _ h9 => h9) rfl dX6_shapeAt_7 ?_
  refine n_iconst hx hb 0 dX6_shapeAt_10 (by decide) ?_
  refine n_iald hx hb hK hP 1 0 rfl rfl 0 (by decide) (by decide) dX6_shapeAt_11 ?_
  refine lv_isub hx hb dX6_shapeAt_12 ?_
  refine lv_bipush (v := nI 7) hx hb dX6_shapeAt_13 (by decide) ?_
  refine k_roS (As := [.int (((S 1) k) - ((S 1) 0)), .int (nI 7)]) (rest := []) (wc := []) (d := 0) (v := pFM (((S 1) k) - ((S 1) 0)) (nI 7)) cx (c_J9_floorMod_7cf53 l G T A (((S 1) k) - ((S 1) 0)) (nI 7) (nI_ne0 (by decide) (by decide))) (va_cwS 2 hts gX6_shapeAt_J9_floorMod_7cf53 rfl rfl rfl (by decide +kernel) ⟨Nat.le_of_ble_eq_true rfl, Nat.le_of_ble_eq_true rfl⟩) (hP.sub (ws' := []) [] rfl) hK hE rfl hl.1 rfl (Nat.le_of_ble_eq_true rfl) dX6_shapeAt_15 ⟨Nat.le_of_ble_eq_true rfl, Nat.le_of_ble_eq_true rfl⟩ ?_
  subst hQ
  exact e_ro hx hb hr hlocks rfl dX6_shapeAt_18
set_option maxHeartbeats 4000000 in
set_option maxRecDepth 100000 in
theorem c_X6_add (l : Launch) (G : va_G) (T : Nat → ClassId) (sz : Nat) (q : Nat → Nat) (S : Nat → Nat → Int32) (x : Int32) (n : Nat) (hlen : S 0 2 = nI n) (hn9 : n ≤ 9) : RWv l yX6_add wsX6_add 0 0 0 G T sz (oX6 T q S) [.ref (q 0), .int x] (oX6 T q (sa (sc S 2 (nI (pMin9 (n + 1)))) 1 (if n < 9 then upd (S 1) n x else S 1))) := by
  refine Met.ofW (cc := cX6_add) (maxL := 2) (ret := none) (by decide) rfl ?_
  intro p e s m args below meth c s₁ B hml hv
  obtain ⟨ha, hsz, hP, hK, hD0, hE0⟩ := hv
  have hx := B.exec
  have hb := B.bytes
  have hr := B.returns
  have hlocks := B.notSynchronized
  have hts := atoms_spec (ws := wsX6_add) B.pre
  have hown : s.vm.findClass RX6 = some m.cls := findClass_of_methodNamed B.named
  have cx : CallFix p m c cX6_add 2 s args wsX6_add RX6 := ⟨hx, hb, hml, hown, hts⟩
  subst hsz
  have hD := hD0.self (sz := s.heap.size)
  generalize hAe : va_A (oX6 T q S) s.heap.size = A at hD hE0 ⊢
  have hE : gE A s s.heap := hE0
  have hA : ∀ q : Nat, s.heap.size ≤ q → A q := fun q h => by rw [← hAe]; exact Or.inr h
  have hS : va_S A s.heap s.heap [] := va_S.rf
  refine w_entry ha (Nat.le_of_ble_eq_true rfl) (fun ls hl => ?_)
  refine w_q (fun Q0 hQ => ?_)
  have lk18 := hts (.fieldLink RX6 18 "WhistleTunes$Tune" "length" "I") (by decide +kernel)
  have hinX6 : ∀ w ∈ wsX60, w ∈ wsX6_add := by decide +kernel
  have lk11 := hts (.fieldLink RX6 11 "WhistleTunes$Tune" "notes" "[I") (by decide +kernel)
  have hl : lv_has ls 2 [(0, .ref (q 0)), (1, .int x)] := hl
  have hP : va_P G vwCl [(q 0, .inr (6, [.ref (q 1), .ref (q 2), .int (S 0 2)])), (q 1, .inl (T 0, 9, .inl (S 1))), (q 2, .inl (T 0, 3, .inl (S 2)))] s.heap := hP
  have hD : va_D A [(q 0, .inr (6, [.ref (q 1), .ref (q 2), .int (S 0 2)])), (q 1, .inl (T 0, 9, .inl (S 1))), (q 2, .inl (T 0, 3, .inl (S 2)))] := hD
  skip
  refine w_h (fun H locs hHe hLe => ?_)
  have hP : va_P G vwCl [(q 0, .inr (6, [.ref (q 1), .ref (q 2), .int (S 0 2)])), (q 1, .inl (T 0, 9, .inl (S 1))), (q 2, .inl (T 0, 3, .inl (S 2)))] H := by rw [hHe]; exact hP
  have hS : va_S A s.heap H locs := by rw [hHe, hLe]; exact hS
  refine lv_aload_n hx hb dX6_add_0 rfl (lv_at hl 0 rfl) ?_
  refine va_get (D := G) (ci := 6) (v := .int (S 0 2)) (C := RX6) (T := TX6) (N := 3) hx hb hts hinX6 hown hK hP 0 rfl rfl 2 (by decide) lk18 (fun _ h9 => h9) rfl dX6_add_1 ?_
  refine n_top (y := nI n) hlen ?_
  refine lv_bipush (v := nI 9) hx hb dX6_add_4 (by decide) ?_
  refine n_icmp_ge (a := n) (b := 9) (tgt := 29) hx hb (by omega) (by decide) dX6_add_6 (by decide) (fun c_1 => ?_) (fun c_2 => ?_)
  · skip
    subst hQ
    have e_3 : (S 1) = if n < 9 then upd (S 1) n x else S 1 := (by first | rw [if_pos (by omega)] | rw [if_neg (by omega)])
    have e_4 : S 0 2 = nI (pMin9 (n + 1)) := (by first | (obtain rfl : n = 9 := (by omega); rw [hlen]; rfl) | (unfold pMin9; by_cases h : n + 1 < 9; rw [if_pos h]; rw [if_neg h, show n + 1 = 9 by omega]))
    rw [e_4, e_3] at hP hD
    have hP9 : va_P G vwCl (oX6 T q (sa (sc S 2 (nI (pMin9 (n + 1)))) 1 (if n < 9 then upd (S 1) n x else S 1))) H := hP
    have hD9 : va_D A (oX6 T q (sa (sc S 2 (nI (pMin9 (n + 1)))) 1 (if n < 9 then upd (S 1) n x else S 1))) := hD
    exact e_rwv hx hb hr hlocks hS hP9 hD9 dX6_add_29
  · skip
    refine lv_aload_n hx hb dX6_add_9 rfl (lv_at hl 0 rfl) ?_
    refine va_get (D := G) (ci := 6) (v := .ref (q 1)) (C := RX6) (T := TX6) (N := 3) hx hb hts hinX6 hown hK hP 0 rfl rfl 0 (by decide) lk11 (fun _ h9 => h9) rfl dX6_add_10 ?_
    refine lv_aload_n hx hb dX6_add_13 rfl (lv_at hl 0 rfl) ?_
    refine va_get (D := G) (ci := 6) (v := .int (S 0 2)) (C := RX6) (T := TX6) (N := 3) hx hb hts hinX6 hown hK hP 0 rfl rfl 2 (by decide) lk18 (fun _ h9 => h9) rfl dX6_add_14 ?_
    refine n_top (y := nI n) hlen ?_
    refine lv_iload_n hx hb dX6_add_17 rfl (lv_at hl 1 rfl) ?_
    refine n_iast hx hb hK hP hD hS 1 0 rfl rfl n (by omega) (by decide) dX6_add_18 (fun H locs hP hD hS => ?_)
    have hP : va_P G vwCl [(q 0, .inr (6, [.ref (q 1), .ref (q 2), .int (S 0 2)])), (q 1, .inl (T 0, 9, .inl (upd (S 1) n x))), (q 2, .inl (T 0, 3, .inl (S 2)))] H := hP
    have hD : va_D A [(q 0, .inr (6, [.ref (q 1), .ref (q 2), .int (S 0 2)])), (q 1, .inl (T 0, 9, .inl (upd (S 1) n x))), (q 2, .inl (T 0, 3, .inl (S 2)))] := hD
    refine lv_aload_n hx hb dX6_add_19 rfl (lv_at hl 0 rfl) ?_
    refine lv_dup hx hb dX6_add_20 rfl ?_
    refine va_get (D := G) (ci := 6) (v := .int (S 0 2)) (C := RX6) (T := TX6) (N := 3) hx hb hts hinX6 hown hK hP 0 rfl rfl 2 (by decide) lk18 (fun _ h9 => h9) rfl dX6_add_21 ?_
    refine n_top (y := nI n) hlen ?_
    refine n_iconst hx hb 1 dX6_add_24 (by decide) ?_
    refine n_iadd (a := n) (b := 1) hx hb dX6_add_25 ?_
    refine va_put (D := G) (ci := 6) (v := .int (nI (n + 1))) (ty := .int) (C := RX6) (T := TX6) (N := 3) hx hb hts hinX6 tyX6 tyX6_ok nmX6 hown hK hP hD hS 0 rfl rfl 2 (by decide) lk18 (fun _ h9 => h9) rfl (by decide +kernel) rfl rfl (Nat.le_of_ble_eq_true rfl) dX6_add_26 (fun H locs hP hD hS => ?_)
    have hP : va_P G vwCl [(q 0, .inr (6, [.ref (q 1), .ref (q 2), .int (nI (n + 1))])), (q 1, .inl (T 0, 9, .inl (upd (S 1) n x))), (q 2, .inl (T 0, 3, .inl (S 2)))] H := hP
    have hD : va_D A [(q 0, .inr (6, [.ref (q 1), .ref (q 2), .int (nI (n + 1))])), (q 1, .inl (T 0, 9, .inl (upd (S 1) n x))), (q 2, .inl (T 0, 3, .inl (S 2)))] := hD
    subst hQ
    have e_5 : (upd (S 1) n x) = if n < 9 then upd (S 1) n x else S 1 := (by first | rw [if_pos (by omega)] | rw [if_neg (by omega)])
    have e_6 : nI (n + 1) = nI (pMin9 (n + 1)) := (by first | (obtain rfl : n = 9 := (by omega); rw [hlen]; rfl) | (unfold pMin9; by_cases h : n + 1 < 9; rw [if_pos h]; rw [if_neg h, show n + 1 = 9 by omega]))
    rw [e_5, e_6] at hP hD
    have hP9 : va_P G vwCl (oX6 T q (sa (sc S 2 (nI (pMin9 (n + 1)))) 1 (if n < 9 then upd (S 1) n x else S 1))) H := hP
    have hD9 : va_D A (oX6 T q (sa (sc S 2 (nI (pMin9 (n + 1)))) 1 (if n < 9 then upd (S 1) n x else S 1))) := hD
    exact e_rwv hx hb hr hlocks hS hP9 hD9 dX6_add_29
set_option maxHeartbeats 4000000 in
set_option maxRecDepth 100000 in
theorem c_X3_learn (l : Launch) (G : va_G) (T : Nat → ClassId) (sz : Nat) (q : Nat → Nat) (u : Nat → Nat) (S : Nat → Nat → Int32) (U : Nat → Nat → Int32) (mm : Nat) (n : Nat) (hm20 : mm < 20) (hlen : U 0 2 = nI n) (hn2 : 2 ≤ n) (hn8 : n ≤ 8) : RWv l yX3_learn wsX3_learn 1 0 0 G T sz (oX3 T q S ++ oX6 T u U) [.ref (q 0), .int (nI mm), .ref (u 0)] (oX3 T q (sa (sa S 6 (upd (S 6) mm (nI n))) 7 (va_cpy (U 1) (S 7) 0 (mm * 8) n)) ++ oX6 T u U) := by
  refine Met.ofW (cc := cX3_learn) (maxL := 3) (ret := none) (by decide) rfl ?_
  intro p e s m args below meth c s₁ B hml hv
  obtain ⟨ha, hsz, hP, hK, hD0, hE0⟩ := hv
  have hx := B.exec
  have hb := B.bytes
  have hr := B.returns
  have hlocks := B.notSynchronized
  have hts := atoms_spec (ws := wsX3_learn) B.pre
  have hown : s.vm.findClass RX3 = some m.cls := findClass_of_methodNamed B.named
  have cx : CallFix p m c cX3_learn 3 s args wsX3_learn RX3 := ⟨hx, hb, hml, hown, hts⟩
  subst hsz
  have hD := hD0.self (sz := s.heap.size)
  generalize hAe : va_A (oX3 T q S ++ oX6 T u U) s.heap.size = A at hD hE0 ⊢
  have hE : gE A s s.heap := hE0
  have hA : ∀ q : Nat, s.heap.size ≤ q → A q := fun q h => by rw [← hAe]; exact Or.inr h
  have hS : va_S A s.heap s.heap [] := va_S.rf
  refine w_entry ha (Nat.le_of_ble_eq_true rfl) (fun ls hl => ?_)
  refine w_q (fun Q0 hQ => ?_)
  have lk15 := hts (.fieldLink RX3 15 "WhistleTunes$School" "tuneLengths" "[I") (by decide +kernel)
  have hinX3 : ∀ w ∈ wsX30, w ∈ wsX3_learn := by decide +kernel
  have lk73 := hts (.fieldLink RX3 73 "WhistleTunes$Tune" "length" "I") (by decide +kernel)
  have hinX6 : ∀ w ∈ wsX60, w ∈ wsX3_learn := by decide +kernel
  have lk76 := hts (.fieldLink RX3 76 "WhistleTunes$Tune" "notes" "[I") (by decide +kernel)
  have lk18 := hts (.fieldLink RX3 18 "WhistleTunes$School" "tuneNotes" "[I") (by decide +kernel)
  have hl : lv_has ls 3 [(0, .ref (q 0)), (1, .int (nI mm)), (2, .ref (u 0))] := hl
  have hP : va_P G vwCl [(q 0, .inr (3, [.int (S 0 0), .int (S 0 1), .int (S 0 2), .int (S 0 3), .ref (q 5), .ref (q 6), .ref (q 7), .ref (q 8), .ref (q 9), .ref (q 10), .ref (q 11), .ref (q 12), .ref (q 13), .ref (q 14), .ref (q 15), .ref (q 16)])), (q 5, .inl (T 0, 2, .inl (S 5))), (q 6, .inl (T 0, 20, .inl (S 6))), (q 7, .inl (T 0, 160, .inl (S 7))), (q 8, .inl (T 0, 20, .inl (S 8))), (q 9, .inl (T 0, 20, .inl (S 9))), (q 10, .inl (T 0, 20, .inl (S 10))), (q 11, .inl (T 0, 6, .inl (S 11))), (q 12, .inl (T 0, 6, .inl (S 12))), (q 13, .inl (T 0, 6, .inl (S 13))), (q 14, .inl (T 0, 6, .inl (S 14))), (q 15, .inl (T 0, 6, .inl (S 15))), (q 16, .inl (T 0, 2, .inl (S 16))), (u 0, .inr (6, [.ref (u 1), .ref (u 2), .int (U 0 2)])), (u 1, .inl (T 0, 9, .inl (U 1))), (u 2, .inl (T 0, 3, .inl (U 2)))] s.heap := hP
  have hD : va_D A [(q 0, .inr (3, [.int (S 0 0), .int (S 0 1), .int (S 0 2), .int (S 0 3), .ref (q 5), .ref (q 6), .ref (q 7), .ref (q 8), .ref (q 9), .ref (q 10), .ref (q 11), .ref (q 12), .ref (q 13), .ref (q 14), .ref (q 15), .ref (q 16)])), (q 5, .inl (T 0, 2, .inl (S 5))), (q 6, .inl (T 0, 20, .inl (S 6))), (q 7, .inl (T 0, 160, .inl (S 7))), (q 8, .inl (T 0, 20, .inl (S 8))), (q 9, .inl (T 0, 20, .inl (S 9))), (q 10, .inl (T 0, 20, .inl (S 10))), (q 11, .inl (T 0, 6, .inl (S 11))), (q 12, .inl (T 0, 6, .inl (S 12))), (q 13, .inl (T 0, 6, .inl (S 13))), (q 14, .inl (T 0, 6, .inl (S 14))), (q 15, .inl (T 0, 6, .inl (S 15))), (q 16, .inl (T 0, 2, .inl (S 16))), (u 0, .inr (6, [.ref (u 1), .ref (u 2), .int (U 0 2)])), (u 1, .inl (T 0, 9, .inl (U 1))), (u 2, .inl (T 0, 3, .inl (U 2)))] := hD
  skip
  refine w_h (fun H locs hHe hLe => ?_)
  have hP : va_P G vwCl [(q 0, .inr (3, [.int (S 0 0), .int (S 0 1), .int (S 0 2), .int (S 0 3), .ref (q 5), .ref (q 6), .ref (q 7), .ref (q 8), .ref (q 9), .ref (q 10), .ref (q 11), .ref (q 12), .ref (q 13), .ref (q 14), .ref (q 15), .ref (q 16)])), (q 5, .inl (T 0, 2, .inl (S 5))), (q 6, .inl (T 0, 20, .inl (S 6))), (q 7, .inl (T 0, 160, .inl (S 7))), (q 8, .inl (T 0, 20, .inl (S 8))), (q 9, .inl (T 0, 20, .inl (S 9))), (q 10, .inl (T 0, 20, .inl (S 10))), (q 11, .inl (T 0, 6, .inl (S 11))), (q 12, .inl (T 0, 6, .inl (S 12))), (q 13, .inl (T 0, 6, .inl (S 13))), (q 14, .inl (T 0, 6, .inl (S 14))), (q 15, .inl (T 0, 6, .inl (S 15))), (q 16, .inl (T 0, 2, .inl (S 16))), (u 0, .inr (6, [.ref (u 1), .ref (u 2), .int (U 0 2)])), (u 1, .inl (T 0, 9, .inl (U 1))), (u 2, .inl (T 0, 3, .inl (U 2)))] H := by rw [hHe]; exact hP
  have hS : va_S A s.heap H locs := by rw [hHe, hLe]; exact hS
  refine lv_aload_n hx hb dX3_learn_0 rfl (lv_at hl 2 rfl) ?_
  refine k_roV (As := []) (rest := []) (wc := oX6 T u U) (d := 0) (v := bI (decide (2 ≤ n ∧ n ≤ 8))) cx (c_X6_isOfTuneLength l G T A u U n (by first | assumption | rfl | omega) (by omega)) (cwV 0 hts gX3_learn_X6_isOfTuneLength rfl rfl rfl (by decide +kernel) ⟨Nat.le_of_ble_eq_true rfl, Nat.le_of_ble_eq_true rfl⟩) (hP.sub (ws' := oX6 T u U) [13, 14, 15] rfl) hK (hE.kept hS.2.1) (va_recv hK hP (ci := 6) (q0 := 13) rfl rfl) rfl hl.1 rfl (Nat.le_of_ble_eq_true rfl) dX3_learn_1 ⟨Nat.le_of_ble_eq_true rfl, Nat.le_of_ble_eq_true rfl⟩ ?_
  refine b_if_eq (b := decide (2 ≤ n ∧ n ≤ 8)) (tgt := 37) hx hb dX3_learn_4 (by decide) (fun c_1 => by exfalso; simp only [decide_eq_false_iff_not] at c_1; omega) (fun c_2 => ?_)
  refine lv_aload_n hx hb dX3_learn_7 rfl (lv_at hl 0 rfl) ?_
  refine va_get (D := G) (ci := 3) (v := .ref (q 6)) (C := RX3) (T := TX3) (N := 16) hx hb hts hinX3 hown hK hP 0 rfl rfl 5 (by decide) lk15 (fun _ h9 => h9) rfl dX3_learn_8 ?_
  refine lv_iload_n hx hb dX3_learn_11 rfl (lv_at hl 1 rfl) ?_
  refine lv_aload_n hx hb dX3_learn_12 rfl (lv_at hl 2 rfl) ?_
  refine va_get (D := G) (ci := 6) (v := .int (U 0 2)) (C := RX6) (T := TX6) (N := 3) hx hb hts hinX6 hown hK hP 13 rfl rfl 2 (by decide) lk73 (fun _ h9 => h9) rfl dX3_learn_13 ?_
  refine n_top (y := nI n) hlen ?_
  refine n_iast hx hb hK hP hD hS 2 0 rfl rfl mm (by omega) (by decide) dX3_learn_16 (fun H locs hP hD hS => ?_)
  have hP : va_P G vwCl [(q 0, .inr (3, [.int (S 0 0), .int (S 0 1), .int (S 0 2), .int (S 0 3), .ref (q 5), .ref (q 6), .ref (q 7), .ref (q 8), .ref (q 9), .ref (q 10), .ref (q 11), .ref (q 12), .ref (q 13), .ref (q 14), .ref (q 15), .ref (q 16)])), (q 5, .inl (T 0, 2, .inl (S 5))), (q 6, .inl (T 0, 20, .inl (upd (S 6) mm (nI n)))), (q 7, .inl (T 0, 160, .inl (S 7))), (q 8, .inl (T 0, 20, .inl (S 8))), (q 9, .inl (T 0, 20, .inl (S 9))), (q 10, .inl (T 0, 20, .inl (S 10))), (q 11, .inl (T 0, 6, .inl (S 11))), (q 12, .inl (T 0, 6, .inl (S 12))), (q 13, .inl (T 0, 6, .inl (S 13))), (q 14, .inl (T 0, 6, .inl (S 14))), (q 15, .inl (T 0, 6, .inl (S 15))), (q 16, .inl (T 0, 2, .inl (S 16))), (u 0, .inr (6, [.ref (u 1), .ref (u 2), .int (U 0 2)])), (u 1, .inl (T 0, 9, .inl (U 1))), (u 2, .inl (T 0, 3, .inl (U 2)))] H := hP
  have hD : va_D A [(q 0, .inr (3, [.int (S 0 0), .int (S 0 1), .int (S 0 2), .int (S 0 3), .ref (q 5), .ref (q 6), .ref (q 7), .ref (q 8), .ref (q 9), .ref (q 10), .ref (q 11), .ref (q 12), .ref (q 13), .ref (q 14), .ref (q 15), .ref (q 16)])), (q 5, .inl (T 0, 2, .inl (S 5))), (q 6, .inl (T 0, 20, .inl (upd (S 6) mm (nI n)))), (q 7, .inl (T 0, 160, .inl (S 7))), (q 8, .inl (T 0, 20, .inl (S 8))), (q 9, .inl (T 0, 20, .inl (S 9))), (q 10, .inl (T 0, 20, .inl (S 10))), (q 11, .inl (T 0, 6, .inl (S 11))), (q 12, .inl (T 0, 6, .inl (S 12))), (q 13, .inl (T 0, 6, .inl (S 13))), (q 14, .inl (T 0, 6, .inl (S 14))), (q 15, .inl (T 0, 6, .inl (S 15))), (q 16, .inl (T 0, 2, .inl (S 16))), (u 0, .inr (6, [.ref (u 1), .ref (u 2), .int (U 0 2)])), (u 1, .inl (T 0, 9, .inl (U 1))), (u 2, .inl (T 0, 3, .inl (U 2)))] := hD
  refine lv_aload_n hx hb dX3_learn_17 rfl (lv_at hl 2 rfl) ?_
  refine va_get (D := G) (ci := 6) (v := .ref (u 1)) (C := RX6) (T := TX6) (N := 3) hx hb hts hinX6 hown hK hP 13 rfl rfl 0 (by decide) lk76 (fun _ h9 => h9) rfl dX3_learn_18 ?_
  refine n_iconst hx hb 0 dX3_learn_21 (by decide) ?_
  refine lv_aload_n hx hb dX3_learn_22 rfl (lv_at hl 0 rfl) ?_
  refine va_get (D := G) (ci := 3) (v := .ref (q 7)) (C := RX3) (T := TX3) (N := 16) hx hb hts hinX3 hown hK hP 0 rfl rfl 6 (by decide) lk18 (fun _ h9 => h9) rfl dX3_learn_23 ?_
  refine lv_iload_n hx hb dX3_learn_26 rfl (lv_at hl 1 rfl) ?_
  refine lv_bipush (v := nI 8) hx hb dX3_learn_27 (by decide) ?_
  refine n_imul (a := mm) (b := 8) hx hb dX3_learn_29 ?_
  refine lv_aload_n hx hb dX3_learn_30 rfl (lv_at hl 2 rfl) ?_
  refine va_get (D := G) (ci := 6) (v := .int (U 0 2)) (C := RX6) (T := TX6) (N := 3) hx hb hts hinX6 hown hK hP 13 rfl rfl 2 (by decide) lk73 (fun _ h9 => h9) rfl dX3_learn_31 ?_
  refine n_top (y := nI n) hlen ?_
  refine n_copy hx hb (hml.trans hl.1.symm) hown (hts (.methodLink RX3 61 arraycopyName) (by decide +kernel)) (hts (.native arraycopyName) (by decide +kernel)) (hts (.static arraycopyName) (by decide +kernel)) (hts (.initialized "java/lang/System") (by decide +kernel)) hK hP hD hS 14 3 rfl rfl rfl rfl 0 (mm * 8) n (by omega) (by omega) (by decide) (by decide) (Nat.le_of_ble_eq_true rfl) (by decide) dX3_learn_34 (fun H locs hP hD hS => ?_)
  have hP : va_P G vwCl [(q 0, .inr (3, [.int (S 0 0), .int (S 0 1), .int (S 0 2), .int (S 0 3), .ref (q 5), .ref (q 6), .ref (q 7), .ref (q 8), .ref (q 9), .ref (q 10), .ref (q 11), .ref (q 12), .ref (q 13), .ref (q 14), .ref (q 15), .ref (q 16)])), (q 5, .inl (T 0, 2, .inl (S 5))), (q 6, .inl (T 0, 20, .inl (upd (S 6) mm (nI n)))), (q 7, .inl (T 0, 160, .inl (va_cpy (U 1) (S 7) 0 (mm * 8) n))), (q 8, .inl (T 0, 20, .inl (S 8))), (q 9, .inl (T 0, 20, .inl (S 9))), (q 10, .inl (T 0, 20, .inl (S 10))), (q 11, .inl (T 0, 6, .inl (S 11))), (q 12, .inl (T 0, 6, .inl (S 12))), (q 13, .inl (T 0, 6, .inl (S 13))), (q 14, .inl (T 0, 6, .inl (S 14))), (q 15, .inl (T 0, 6, .inl (S 15))), (q 16, .inl (T 0, 2, .inl (S 16))), (u 0, .inr (6, [.ref (u 1), .ref (u 2), .int (U 0 2)])), (u 1, .inl (T 0, 9, .inl (U 1))), (u 2, .inl (T 0, 3, .inl (U 2)))] H := hP
  have hD : va_D A [(q 0, .inr (3, [.int (S 0 0), .int (S 0 1), .int (S 0 2), .int (S 0 3), .ref (q 5), .ref (q 6), .ref (q 7), .ref (q 8), .ref (q 9), .ref (q 10), .ref (q 11), .ref (q 12), .ref (q 13), .ref (q 14), .ref (q 15), .ref (q 16)])), (q 5, .inl (T 0, 2, .inl (S 5))), (q 6, .inl (T 0, 20, .inl (upd (S 6) mm (nI n)))), (q 7, .inl (T 0, 160, .inl (va_cpy (U 1) (S 7) 0 (mm * 8) n))), (q 8, .inl (T 0, 20, .inl (S 8))), (q 9, .inl (T 0, 20, .inl (S 9))), (q 10, .inl (T 0, 20, .inl (S 10))), (q 11, .inl (T 0, 6, .inl (S 11))), (q 12, .inl (T 0, 6, .inl (S 12))), (q 13, .inl (T 0, 6, .inl (S 13))), (q 14, .inl (T 0, 6, .inl (S 14))), (q 15, .inl (T 0, 6, .inl (S 15))), (q 16, .inl (T 0, 2, .inl (S 16))), (u 0, .inr (6, [.ref (u 1), .ref (u 2), .int (U 0 2)])), (u 1, .inl (T 0, 9, .inl (U 1))), (u 2, .inl (T 0, 3, .inl (U 2)))] := hD
  subst hQ
  have hP9 : va_P G vwCl (oX3 T q (sa (sa S 6 (upd (S 6) mm (nI n))) 7 (va_cpy (U 1) (S 7) 0 (mm * 8) n)) ++ oX6 T u U) H := hP
  have hD9 : va_D A (oX3 T q (sa (sa S 6 (upd (S 6) mm (nI n))) 7 (va_cpy (U 1) (S 7) 0 (mm * 8) n)) ++ oX6 T u U) := hD
  exact e_rwv hx hb hr hlocks hS hP9 hD9 dX3_learn_37
