/-! WhistleTunes: its short methods (pure), then their contracts (printed by wip/p33/s37.py) -/
def pMsg (S : Nat → Nat → Int32) (m k : Nat) : Int32 := match k with | 0 => S 6 m | 1 => S 8 m | 2 => S 9 m | _ => S 10 m
def pNote (S : Nat → Nat → Int32) (m k : Nat) : Int32 := if S 6 m ≤ nI k then -1 else S 7 (m * 8 + k)
def pRm (S : Nat → Nat → Int32) (r k : Nat) : Int32 := match k with | 0 => S 11 r | 1 => S 12 r | 2 => bI (pHB (S 0 3) (nI r)) | 3 => bI (pSil S r) | 4 => S 13 r | _ => S 14 r
def pCt (S : Nat → Nat → Int32) (n k : Nat) : Int32 := match k with | 0 => S 0 0 | 1 => S 0 1 | 2 => nI (pMT S 20) | 4 => pLT S 20 | 5 => S 0 2 | 6 => pBC (S 0 3) | 7 => nI (pSR S 6) | 8 => pSm (S 9) 20 | 9 => pSm (S 12) 6 | 10 => pRK S (S 0 1) 6 | 11 => S 5 0 | 12 => S 5 1 | _ => nI n
def pLk (S : Nat → Nat → Int32) (f : Nat) (b : Bool) : Int32 := if b then S 0 2 ||| iShl (nI 1) (nI f) else S 0 2 &&& (iShl (nI 1) (nI f) ^^^ -1)
def pFor (O S : Nat → Nat → Int32) (r m : Nat) : Nat → Nat → Int32 := sc (sc (sc (sc (sc O 0 (pFHo S r 3)) 1 (pHe S r)) 2 (pUn S r)) 3 (pCa S r m)) 4 (pRa S r m)
def pRem (S O : Nat → Nat → Int32) (r m : Nat) : Nat → Nat → Int32 := sa (sa (sa (sa (sa (sa (sc S 3 ((S 0 3) ||| (O 0 4))) 9 (upd (S 9) m ((S 9) m + nI 1))) 10 (upd (S 10) m ((S 10) m + pBC (O 0 2)))) 12 (upd (S 12) r ((S 12) r + pBC (O 0 3)))) 13 (pCU (S 13) (O 0 2) 6)) 14 (pCN (S 14) (O 0 1) (O 0 2) 6)) 15 (pLW (S 15) O r m)
def pIfO (O S : Nat → Nat → Int32) (r m : Nat) : Nat → Nat → Int32 := if pWhy S r m = 0 then pFor O S r m else O
theorem pIfO_1 {O S : Nat → Nat → Int32} {r m : Nat} (h : pWhy S r m = 0) : pIfO O S r m = pFor O S r m := if_pos h
theorem pIfO_2 {O S : Nat → Nat → Int32} {r m : Nat} (h : ¬ pWhy S r m = 0) : pIfO O S r m = O := if_neg h
def pIf (S : Nat → Nat → Int32) (r m k : Nat) : Int32 := if pWhy S r m = 0 then (match k with | 0 => pHe S r | 1 => pUn S r | 2 => pCa S r m | _ => pRa S r m) else -1
theorem pIf_1 {S : Nat → Nat → Int32} {r m : Nat} (k : Nat) (h : pWhy S r m = 0) : pIf S r m k = (match k with | 0 => pHe S r | 1 => pUn S r | 2 => pCa S r m | _ => pRa S r m) := if_pos h
theorem pIf_2 {S : Nat → Nat → Int32} {r m : Nat} (k : Nat) (h : ¬ pWhy S r m = 0) : pIf S r m k = -1 := if_neg h
def pBrO (O S : Nat → Nat → Int32) (m : Nat) : Nat → (Nat → Nat → Int32) | 0 => O | k + 1 => pFor (pBrO O S m k) S k m
def pBr (S : Nat → Nat → Int32) (m : Nat) : Nat → Int32 × Int32 | 0 => (-1, -1) | k + 1 => if pCa S k m = 0 ∧ pWhy S k m = 0 ∧ ¬ pBC (pUn S k) ≤ (pBr S m k).2 then (nI k, pBC (pUn S k)) else pBr S m k
theorem pBr_1 {S : Nat → Nat → Int32} {m k : Nat} (h : pCa S k m = 0 ∧ pWhy S k m = 0 ∧ ¬ pBC (pUn S k) ≤ (pBr S m k).2) : pBr S m (k + 1) = (nI k, pBC (pUn S k)) := if_pos h
theorem pBr_2 {S : Nat → Nat → Int32} {m k : Nat} (h : ¬ (pCa S k m = 0 ∧ pWhy S k m = 0 ∧ ¬ pBC (pUn S k) ≤ (pBr S m k).2)) : pBr S m (k + 1) = pBr S m k := if_neg h



set_option maxHeartbeats 4000000 in
set_option maxRecDepth 100000 in
theorem c_X7_latest (l : Launch) (G : va_G) (T : Nat → ClassId) (A : Nat → Prop) (w : Nat → Nat) (q : Nat → Nat) (qz : Nat → Nat) (h : Nat → Nat) (t : Nat → Nat) (gr : Nat → Nat) (u : Nat → Nat) (tr : Nat → Nat) (oc : Nat → Nat) (Sw : Nat → Nat → Int32) (S : Nat → Nat → Int32) (kk : Nat) (hk9 : kk < 6) : RO l yX7_latest wsX7_latest 0 G T A (oX7 w q qz h t gr u tr oc Sw ++ oX3 T q S) [.ref (w 0), .int (nI kk)] (S 15 kk) := by
  refine Met.ofW (cc := cX7_latest) (maxL := 2) (ret := (some .int)) (by decide) rfl ?_
  intro p e s m args below meth c s₁ B hml hv
  obtain ⟨ha, hP, hK, hE⟩ := hv
  have hx := B.exec
  have hb := B.bytes
  have hr := B.returns
  have hlocks := B.notSynchronized
  have hts := atoms_spec (ws := wsX7_latest) B.pre
  have hown : s.vm.findClass RX7 = some m.cls := findClass_of_methodNamed B.named
  have cx : CallFix p m c cX7_latest 2 s args wsX7_latest RX7 := ⟨hx, hb, hml, hown, hts⟩
  refine w_entry ha (Nat.le_of_ble_eq_true rfl) (fun ls hl => ?_)
  refine w_q (fun Q0 hQ => ?_)
  have lk10 := hts (.fieldLink RX7 10 "WhistleTunes" "school" "LWhistleTunes$School;") (by decide +kernel)
  have hinX7 : ∀ w ∈ wsX70, w ∈ wsX7_latest := by decide +kernel
  have lk247 := hts (.fieldLink RX7 247 "WhistleTunes$School" "latestWhistle" "[I") (by decide +kernel)
  have hinX3 : ∀ w ∈ wsX30, w ∈ wsX7_latest := by decide +kernel
  have hl : lv_has ls 2 [(0, .ref (w 0)), (1, .int (nI kk))] := hl
  have hP : va_P G vwCl [(w 0, .inr (7, [.ref (q 0), .ref (qz 0), .ref (h 0), .ref (t 0), .ref (gr 0), .ref (u 0), .ref (tr 0), .ref (oc 0), .int (Sw 0 8)])), (q 0, .inr (3, [.int (S 0 0), .int (S 0 1), .int (S 0 2), .int (S 0 3), .ref (q 5), .ref (q 6), .ref (q 7), .ref (q 8), .ref (q 9), .ref (q 10), .ref (q 11), .ref (q 12), .ref (q 13), .ref (q 14), .ref (q 15), .ref (q 16)])), (q 5, .inl (T 0, 2, .inl (S 5))), (q 6, .inl (T 0, 20, .inl (S 6))), (q 7, .inl (T 0, 160, .inl (S 7))), (q 8, .inl (T 0, 20, .inl (S 8))), (q 9, .inl (T 0, 20, .inl (S 9))), (q 10, .inl (T 0, 20, .inl (S 10))), (q 11, .inl (T 0, 6, .inl (S 11))), (q 12, .inl (T 0, 6, .inl (S 12))), (q 13, .inl (T 0, 6, .inl (S 13))), (q 14, .inl (T 0, 6, .inl (S 14))), (q 15, .inl (T 0, 6, .inl (S 15))), (q 16, .inl (T 0, 2, .inl (S 16)))] s.heap := hP
  refine lv_iload_n hx hb dX7_latest_0 rfl (lv_at hl 1 rfl) ?_
  refine n_if_lt (a := kk) hx hb (by omega) dX7_latest_1 10 (by decide) ?_
  refine lv_iload_n hx hb dX7_latest_4 rfl (lv_at hl 1 rfl) ?_
  refine lv_bipush (v := nI 6) hx hb dX7_latest_5 (by decide) ?_
  refine n_icmp_lt (a := kk) (b := 6) (tgt := 20) hx hb (by omega) (by decide) dX7_latest_7 (by decide) (fun c_1 => ?_) (fun c_2 => by exfalso; omega)
  refine lv_aload_n hx hb dX7_latest_20 rfl (lv_at hl 0 rfl) ?_
  refine va_get (D := G) (ci := 7) (v := .ref (q 0)) (C := RX7) (T := TX7) (N := 9) hx hb hts hinX7 hown hK hP 0 rfl rfl 0 (by decide) lk10 (fun _ h9 => h9) rfl dX7_latest_21 ?_
  refine va_get (D := G) (ci := 3) (v := .ref (q 15)) (C := RX3) (T := TX3) (N := 16) hx hb hts hinX3 hown hK hP 1 rfl rfl 14 (by decide) lk247 (fun _ h9 => h9) rfl dX7_latest_24 ?_
  refine lv_iload_n hx hb dX7_latest_27 rfl (lv_at hl 1 rfl) ?_
  refine n_iald hx hb hK hP 12 0 rfl rfl kk (by omega) (by decide) dX7_latest_28 ?_
  subst hQ
  exact e_ro hx hb hr hlocks rfl dX7_latest_29
set_option maxHeartbeats 4000000 in
set_option maxRecDepth 100000 in
theorem c_X7_latest_t (l : Launch) (hst : l.stackTraces = false) (G : va_G) (T : Nat → ClassId) (sz : Nat) (w : Nat → Nat) (q : Nat → Nat) (qz : Nat → Nat) (h : Nat → Nat) (t : Nat → Nat) (gr : Nat → Nat) (u : Nat → Nat) (tr : Nat → Nat) (oc : Nat → Nat) (Sw : Nat → Nat → Int32) (x : Int32) (hbx : pBt x 6 = false) : RX l yX7_latest wsX7_latest 7 G T sz (oX7 w q qz h t gr u tr oc Sw) [.ref (w 0), .int x] (.inr "java/lang/IllegalArgumentException") (oX7 w q qz h t gr u tr oc Sw) := by
  refine vx_ofW (cc := cX7_latest) (maxL := 2) (ret := (some .int)) (by decide) rfl ?_
  intro p e s m args below meth c s₁ B hml htab hv
  obtain ⟨ha, ⟨hsz, hP, hK, hD0, hE0⟩, hC⟩ := hv
  have hx := B.exec
  have hb := B.bytes
  have hr := B.returns
  have hlocks := B.notSynchronized
  have hts := atoms_spec (ws := wsX7_latest) B.pre
  have hown : s.vm.findClass RX7 = some m.cls := findClass_of_methodNamed B.named
  have cx : CallFix p m c cX7_latest 2 s args wsX7_latest RX7 := ⟨hx, hb, hml, hown, hts⟩
  subst hsz
  have hD := hD0.self (sz := s.heap.size)
  generalize hAe : va_A (oX7 w q qz h t gr u tr oc Sw) s.heap.size = A at hD hE0 ⊢
  have hE : gE A s s.heap := hE0
  have hA : ∀ q : Nat, s.heap.size ≤ q → A q := fun q h => by rw [← hAe]; exact Or.inr h
  have hS : va_S A s.heap s.heap [] := va_S.rf
  refine w_entry ha (Nat.le_of_ble_eq_true rfl) (fun ls hl => ?_)
  refine w_q (fun Q0 hQ => ?_)
  have hl : lv_has ls 2 [(0, .ref (w 0)), (1, .int x)] := hl
  have hP : va_P G vwCl [(w 0, .inr (7, [.ref (q 0), .ref (qz 0), .ref (h 0), .ref (t 0), .ref (gr 0), .ref (u 0), .ref (tr 0), .ref (oc 0), .int (Sw 0 8)]))] s.heap := hP
  have hD : va_D A [(w 0, .inr (7, [.ref (q 0), .ref (qz 0), .ref (h 0), .ref (t 0), .ref (gr 0), .ref (u 0), .ref (tr 0), .ref (oc 0), .int (Sw 0 8)]))] := hD
  skip
  refine w_h (fun H locs hHe hLe => ?_)
  have hP : va_P G vwCl [(w 0, .inr (7, [.ref (q 0), .ref (qz 0), .ref (h 0), .ref (t 0), .ref (gr 0), .ref (u 0), .ref (tr 0), .ref (oc 0), .int (Sw 0 8)]))] H := by rw [hHe]; exact hP
  have hS : va_S A s.heap H locs := by rw [hHe, hLe]; exact hS
  refine lv_iload_n hx hb dX7_latest_0 rfl (lv_at hl 1 rfl) ?_
  refine lv_if_lt (tgt := 10) hx hb dX7_latest_1 (by decide) (fun c_1 => ?_) (fun c_2 => ?_)
  · skip
    subst hQ
    have hP9 : va_P G vwCl (oX7 w q qz h t gr u tr oc Sw) H := hP
    have hD9 : va_D A (oX7 w q qz h t gr u tr oc Sw) := hD
    exact e_thr hx hb hst (own := RX7) (cls := "java/lang/IllegalArgumentException") "no such number" ["java/lang/RuntimeException", "java/lang/Exception"] (ik := 80) (is := 206) (ic := 84) hown (by decide +kernel) (by decide +kernel) (hts (.classLink RX7 80 "java/lang/IllegalArgumentException") (by decide +kernel)) (hts (.initialized "java/lang/IllegalArgumentException") (by decide +kernel)) (hE.2.1 (RX7, 206, "no such number") (by decide +kernel)) (xt_Z (is := 0) (ik := 0) (text := "") hC (by decide +kernel) (by decide +kernel) (fun w9 hw9 => hts w9 (List.mem_cons_of_mem _ (List.mem_append_right _ hw9)))) (by decide +kernel) hE hS (hl.1.trans hml.symm) dX7_latest_10 dX7_latest_13 dX7_latest_14 dX7_latest_16 dX7_latest_19 htab ⟨by decide, Nat.le_of_ble_eq_true rfl, Nat.le_of_ble_eq_true rfl, Nat.le_of_ble_eq_true rfl⟩ hlocks ⟨rfl, rfl⟩ rfl hP9 hD9
  · skip
    refine lv_iload_n hx hb dX7_latest_4 rfl (lv_at hl 1 rfl) ?_
    refine lv_bipush (v := nI 6) hx hb dX7_latest_5 (by decide) ?_
    refine lv_icmp_lt (tgt := 20) hx hb dX7_latest_7 (by decide) (fun c_3 => by exfalso; exact pBt_X hbx (by assumption) c_3) (fun c_4 => ?_)
    subst hQ
    have hP9 : va_P G vwCl (oX7 w q qz h t gr u tr oc Sw) H := hP
    have hD9 : va_D A (oX7 w q qz h t gr u tr oc Sw) := hD
    exact e_thr hx hb hst (own := RX7) (cls := "java/lang/IllegalArgumentException") "no such number" ["java/lang/RuntimeException", "java/lang/Exception"] (ik := 80) (is := 206) (ic := 84) hown (by decide +kernel) (by decide +kernel) (hts (.classLink RX7 80 "java/lang/IllegalArgumentException") (by decide +kernel)) (hts (.initialized "java/lang/IllegalArgumentException") (by decide +kernel)) (hE.2.1 (RX7, 206, "no such number") (by decide +kernel)) (xt_Z (is := 0) (ik := 0) (text := "") hC (by decide +kernel) (by decide +kernel) (fun w9 hw9 => hts w9 (List.mem_cons_of_mem _ (List.mem_append_right _ hw9)))) (by decide +kernel) hE hS (hl.1.trans hml.symm) dX7_latest_10 dX7_latest_13 dX7_latest_14 dX7_latest_16 dX7_latest_19 htab ⟨by decide, Nat.le_of_ble_eq_true rfl, Nat.le_of_ble_eq_true rfl, Nat.le_of_ble_eq_true rfl⟩ hlocks ⟨rfl, rfl⟩ rfl hP9 hD9
set_option maxHeartbeats 4000000 in
set_option maxRecDepth 100000 in
theorem c_X7_message (l : Launch) (G : va_G) (T : Nat → ClassId) (A : Nat → Prop) (w : Nat → Nat) (q : Nat → Nat) (qz : Nat → Nat) (h : Nat → Nat) (t : Nat → Nat) (gr : Nat → Nat) (u : Nat → Nat) (tr : Nat → Nat) (oc : Nat → Nat) (Sw : Nat → Nat → Int32) (S : Nat → Nat → Int32) (mm : Nat) (kk : Nat) (hm20 : mm < 20) (hk9 : kk < 4) : RO l yX7_message wsX7_message 1 G T A (oX7 w q qz h t gr u tr oc Sw ++ oX3 T q S) [.ref (w 0), .int (nI mm), .int (nI kk)] (pMsg S mm kk) := by
  refine Met.ofW (cc := cX7_message) (maxL := 3) (ret := (some .int)) (by decide) rfl ?_
  intro p e s m args below meth c s₁ B hml hv
  obtain ⟨ha, hP, hK, hE⟩ := hv
  have hx := B.exec
  have hb := B.bytes
  have hr := B.returns
  have hlocks := B.notSynchronized
  have hts := atoms_spec (ws := wsX7_message) B.pre
  have hown : s.vm.findClass RX7 = some m.cls := findClass_of_methodNamed B.named
  have cx : CallFix p m c cX7_message 3 s args wsX7_message RX7 := ⟨hx, hb, hml, hown, hts⟩
  refine w_entry ha (Nat.le_of_ble_eq_true rfl) (fun ls hl => ?_)
  refine w_q (fun Q0 hQ => ?_)
  have lk10 := hts (.fieldLink RX7 10 "WhistleTunes" "school" "LWhistleTunes$School;") (by decide +kernel)
  have hinX7 : ∀ w ∈ wsX70, w ∈ wsX7_message := by decide +kernel
  have lk109 := hts (.fieldLink RX7 109 "WhistleTunes$School" "tuneLengths" "[I") (by decide +kernel)
  have hinX3 : ∀ w ∈ wsX30, w ∈ wsX7_message := by decide +kernel
  have lk141 := hts (.fieldLink RX7 141 "WhistleTunes$School" "forbidders" "[I") (by decide +kernel)
  have lk221 := hts (.fieldLink RX7 221 "WhistleTunes$School" "timesWhistled" "[I") (by decide +kernel)
  have lk224 := hts (.fieldLink RX7 224 "WhistleTunes$School" "timesUnderstood" "[I") (by decide +kernel)
  have hl : lv_has ls 3 [(0, .ref (w 0)), (1, .int (nI mm)), (2, .int (nI kk))] := hl
  have hP : va_P G vwCl [(w 0, .inr (7, [.ref (q 0), .ref (qz 0), .ref (h 0), .ref (t 0), .ref (gr 0), .ref (u 0), .ref (tr 0), .ref (oc 0), .int (Sw 0 8)])), (q 0, .inr (3, [.int (S 0 0), .int (S 0 1), .int (S 0 2), .int (S 0 3), .ref (q 5), .ref (q 6), .ref (q 7), .ref (q 8), .ref (q 9), .ref (q 10), .ref (q 11), .ref (q 12), .ref (q 13), .ref (q 14), .ref (q 15), .ref (q 16)])), (q 5, .inl (T 0, 2, .inl (S 5))), (q 6, .inl (T 0, 20, .inl (S 6))), (q 7, .inl (T 0, 160, .inl (S 7))), (q 8, .inl (T 0, 20, .inl (S 8))), (q 9, .inl (T 0, 20, .inl (S 9))), (q 10, .inl (T 0, 20, .inl (S 10))), (q 11, .inl (T 0, 6, .inl (S 11))), (q 12, .inl (T 0, 6, .inl (S 12))), (q 13, .inl (T 0, 6, .inl (S 13))), (q 14, .inl (T 0, 6, .inl (S 14))), (q 15, .inl (T 0, 6, .inl (S 15))), (q 16, .inl (T 0, 2, .inl (S 16)))] s.heap := hP
  refine lv_iload_n hx hb dX7_message_0 rfl (lv_at hl 1 rfl) ?_
  refine k_roS (As := [.int (nI mm)]) (rest := []) (wc := []) (d := 0) (v := bI (pBt (nI mm) 20)) cx (c_X7_isMessage l G T A (nI mm) ) (va_cwS 1 hts gX7_message_X7_isMessage rfl rfl rfl (by decide +kernel) ⟨Nat.le_of_ble_eq_true rfl, Nat.le_of_ble_eq_true rfl⟩) (hP.sub (ws' := []) [] rfl) hK hE rfl hl.1 rfl (Nat.le_of_ble_eq_true rfl) dX7_message_1 ⟨Nat.le_of_ble_eq_true rfl, Nat.le_of_ble_eq_true rfl⟩ ?_
  refine b_if_ne (b := pBt (nI mm) 20) (tgt := 17) hx hb dX7_message_4 (by decide) (fun c_1 => ?_) (fun c_2 => by exfalso; rw [pBt_T hm20 (by decide)] at c_2; cases c_2)
  refine lv_iload_n hx hb dX7_message_17 rfl (lv_at hl 2 rfl) ?_
  rcases (show kk = 0 ∨ kk = 1 ∨ kk = 2 ∨ kk = 3 by omega) with rfl | rfl | rfl | rfl
  · skip
    refine n_tab (a := 0) (off := 30) (tgt := 48) hx hb (by decide) dX7_message_18 (by decide) (by decide) rfl (by decide) ?_
    refine lv_aload_n hx hb dX7_message_48 rfl (lv_at hl 0 rfl) ?_
    refine va_get (D := G) (ci := 7) (v := .ref (q 0)) (C := RX7) (T := TX7) (N := 9) hx hb hts hinX7 hown hK hP 0 rfl rfl 0 (by decide) lk10 (fun _ h9 => h9) rfl dX7_message_49 ?_
    refine va_get (D := G) (ci := 3) (v := .ref (q 6)) (C := RX3) (T := TX3) (N := 16) hx hb hts hinX3 hown hK hP 1 rfl rfl 5 (by decide) lk109 (fun _ h9 => h9) rfl dX7_message_52 ?_
    refine lv_iload_n hx hb dX7_message_55 rfl (lv_at hl 1 rfl) ?_
    refine n_iald hx hb hK hP 3 0 rfl rfl mm (by omega) (by decide) dX7_message_56 ?_
    subst hQ
    exact e_ro hx hb hr hlocks rfl dX7_message_57
  · skip
    refine n_tab (a := 1) (off := 40) (tgt := 58) hx hb (by decide) dX7_message_18 (by decide) (by decide) rfl (by decide) ?_
    refine lv_aload_n hx hb dX7_message_58 rfl (lv_at hl 0 rfl) ?_
    refine va_get (D := G) (ci := 7) (v := .ref (q 0)) (C := RX7) (T := TX7) (N := 9) hx hb hts hinX7 hown hK hP 0 rfl rfl 0 (by decide) lk10 (fun _ h9 => h9) rfl dX7_message_59 ?_
    refine va_get (D := G) (ci := 3) (v := .ref (q 8)) (C := RX3) (T := TX3) (N := 16) hx hb hts hinX3 hown hK hP 1 rfl rfl 7 (by decide) lk141 (fun _ h9 => h9) rfl dX7_message_62 ?_
    refine lv_iload_n hx hb dX7_message_65 rfl (lv_at hl 1 rfl) ?_
    refine n_iald hx hb hK hP 5 0 rfl rfl mm (by omega) (by decide) dX7_message_66 ?_
    subst hQ
    exact e_ro hx hb hr hlocks rfl dX7_message_67
  · skip
    refine n_tab (a := 2) (off := 50) (tgt := 68) hx hb (by decide) dX7_message_18 (by decide) (by decide) rfl (by decide) ?_
    refine lv_aload_n hx hb dX7_message_68 rfl (lv_at hl 0 rfl) ?_
    refine va_get (D := G) (ci := 7) (v := .ref (q 0)) (C := RX7) (T := TX7) (N := 9) hx hb hts hinX7 hown hK hP 0 rfl rfl 0 (by decide) lk10 (fun _ h9 => h9) rfl dX7_message_69 ?_
    refine va_get (D := G) (ci := 3) (v := .ref (q 9)) (C := RX3) (T := TX3) (N := 16) hx hb hts hinX3 hown hK hP 1 rfl rfl 8 (by decide) lk221 (fun _ h9 => h9) rfl dX7_message_72 ?_
    refine lv_iload_n hx hb dX7_message_75 rfl (lv_at hl 1 rfl) ?_
    refine n_iald hx hb hK hP 6 0 rfl rfl mm (by omega) (by decide) dX7_message_76 ?_
    subst hQ
    exact e_ro hx hb hr hlocks rfl dX7_message_77
  · skip
    refine n_tab (a := 3) (off := 60) (tgt := 78) hx hb (by decide) dX7_message_18 (by decide) (by decide) rfl (by decide) ?_
    refine lv_aload_n hx hb dX7_message_78 rfl (lv_at hl 0 rfl) ?_
    refine va_get (D := G) (ci := 7) (v := .ref (q 0)) (C := RX7) (T := TX7) (N := 9) hx hb hts hinX7 hown hK hP 0 rfl rfl 0 (by decide) lk10 (fun _ h9 => h9) rfl dX7_message_79 ?_
    refine va_get (D := G) (ci := 3) (v := .ref (q 10)) (C := RX3) (T := TX3) (N := 16) hx hb hts hinX3 hown hK hP 1 rfl rfl 9 (by decide) lk224 (fun _ h9 => h9) rfl dX7_message_82 ?_
    refine lv_iload_n hx hb dX7_message_85 rfl (lv_at hl 1 rfl) ?_
    refine n_iald hx hb hK hP 7 0 rfl rfl mm (by omega) (by decide) dX7_message_86 ?_
    subst hQ
    exact e_ro hx hb hr hlocks rfl dX7_message_87
set_option maxHeartbeats 4000000 in
set_option maxRecDepth 100000 in
theorem c_X7_message_t (l : Launch) (hst : l.stackTraces = false) (G : va_G) (T : Nat → ClassId) (sz : Nat) (w : Nat → Nat) (q : Nat → Nat) (qz : Nat → Nat) (h : Nat → Nat) (t : Nat → Nat) (gr : Nat → Nat) (u : Nat → Nat) (tr : Nat → Nat) (oc : Nat → Nat) (Sw : Nat → Nat → Int32) (x : Int32) (y : Int32) (hbx : pBt x 20 = false) : RX l yX7_message wsX7_message 7 G T sz (oX7 w q qz h t gr u tr oc Sw) [.ref (w 0), .int x, .int y] (.inr "java/lang/IndexOutOfBoundsException") (oX7 w q qz h t gr u tr oc Sw) := by
  refine vx_ofW (cc := cX7_message) (maxL := 3) (ret := (some .int)) (by decide) rfl ?_
  intro p e s m args below meth c s₁ B hml htab hv
  obtain ⟨ha, ⟨hsz, hP, hK, hD0, hE0⟩, hC⟩ := hv
  have hx := B.exec
  have hb := B.bytes
  have hr := B.returns
  have hlocks := B.notSynchronized
  have hts := atoms_spec (ws := wsX7_message) B.pre
  have hown : s.vm.findClass RX7 = some m.cls := findClass_of_methodNamed B.named
  have cx : CallFix p m c cX7_message 3 s args wsX7_message RX7 := ⟨hx, hb, hml, hown, hts⟩
  subst hsz
  have hD := hD0.self (sz := s.heap.size)
  generalize hAe : va_A (oX7 w q qz h t gr u tr oc Sw) s.heap.size = A at hD hE0 ⊢
  have hE : gE A s s.heap := hE0
  have hA : ∀ q : Nat, s.heap.size ≤ q → A q := fun q h => by rw [← hAe]; exact Or.inr h
  have hS : va_S A s.heap s.heap [] := va_S.rf
  refine w_entry ha (Nat.le_of_ble_eq_true rfl) (fun ls hl => ?_)
  refine w_q (fun Q0 hQ => ?_)
  have hl : lv_has ls 3 [(0, .ref (w 0)), (1, .int x), (2, .int y)] := hl
  have hP : va_P G vwCl [(w 0, .inr (7, [.ref (q 0), .ref (qz 0), .ref (h 0), .ref (t 0), .ref (gr 0), .ref (u 0), .ref (tr 0), .ref (oc 0), .int (Sw 0 8)]))] s.heap := hP
  have hD : va_D A [(w 0, .inr (7, [.ref (q 0), .ref (qz 0), .ref (h 0), .ref (t 0), .ref (gr 0), .ref (u 0), .ref (tr 0), .ref (oc 0), .int (Sw 0 8)]))] := hD
  skip
  refine w_h (fun H locs hHe hLe => ?_)
  have hP : va_P G vwCl [(w 0, .inr (7, [.ref (q 0), .ref (qz 0), .ref (h 0), .ref (t 0), .ref (gr 0), .ref (u 0), .ref (tr 0), .ref (oc 0), .int (Sw 0 8)]))] H := by rw [hHe]; exact hP
  have hS : va_S A s.heap H locs := by rw [hHe, hLe]; exact hS
  refine lv_iload_n hx hb dX7_message_0 rfl (lv_at hl 1 rfl) ?_
  refine k_roS (As := [.int x]) (rest := []) (wc := []) (d := 0) (v := bI (pBt x 20)) cx (c_X7_isMessage l G T A x ) (va_cwS 1 hts gX7_message_X7_isMessage rfl rfl rfl (by decide +kernel) ⟨Nat.le_of_ble_eq_true rfl, Nat.le_of_ble_eq_true rfl⟩) (hP.sub (ws' := []) [] rfl) hK (hE.kept hS.2.1) rfl hl.1 rfl (Nat.le_of_ble_eq_true rfl) dX7_message_1 ⟨Nat.le_of_ble_eq_true rfl, Nat.le_of_ble_eq_true rfl⟩ ?_
  refine b_if_ne (b := pBt x 20) (tgt := 17) hx hb dX7_message_4 (by decide) (fun c_1 => by exfalso; rw [hbx] at c_1; cases c_1) (fun c_2 => ?_)
  subst hQ
  have hP9 : va_P G vwCl (oX7 w q qz h t gr u tr oc Sw) H := hP
  have hD9 : va_D A (oX7 w q qz h t gr u tr oc Sw) := hD
  exact e_thr hx hb hst (own := RX7) (cls := "java/lang/IndexOutOfBoundsException") "no such message" ["java/lang/RuntimeException", "java/lang/Exception"] (ik := 69) (is := 71) (ic := 73) hown (by decide +kernel) (by decide +kernel) (hts (.classLink RX7 69 "java/lang/IndexOutOfBoundsException") (by decide +kernel)) (hts (.initialized "java/lang/IndexOutOfBoundsException") (by decide +kernel)) (hE.2.1 (RX7, 71, "no such message") (by decide +kernel)) (xt_Z (is := 0) (ik := 0) (text := "") hC (by decide +kernel) (by decide +kernel) (fun w9 hw9 => hts w9 (List.mem_cons_of_mem _ (List.mem_append_left _ (List.mem_append_right _ hw9))))) (by decide +kernel) hE hS (hl.1.trans hml.symm) dX7_message_7 dX7_message_10 dX7_message_11 dX7_message_13 dX7_message_16 htab ⟨by decide, Nat.le_of_ble_eq_true rfl, Nat.le_of_ble_eq_true rfl, Nat.le_of_ble_eq_true rfl⟩ hlocks ⟨rfl, rfl⟩ rfl hP9 hD9
set_option maxHeartbeats 4000000 in
set_option maxRecDepth 100000 in
theorem c_X7_message_t2 (l : Launch) (hst : l.stackTraces = false) (G : va_G) (T : Nat → ClassId) (sz : Nat) (w : Nat → Nat) (q : Nat → Nat) (qz : Nat → Nat) (h : Nat → Nat) (t : Nat → Nat) (gr : Nat → Nat) (u : Nat → Nat) (tr : Nat → Nat) (oc : Nat → Nat) (Sw : Nat → Nat → Int32) (mm : Nat) (y : Int32) (hm20 : mm < 20) (hby : pBt y 4 = false) : RX l yX7_message wsX7_message 7 G T sz (oX7 w q qz h t gr u tr oc Sw) [.ref (w 0), .int (nI mm), .int y] (.inr "java/lang/IllegalArgumentException") (oX7 w q qz h t gr u tr oc Sw) := by
  refine vx_ofW (cc := cX7_message) (maxL := 3) (ret := (some .int)) (by decide) rfl ?_
  intro p e s m args below meth c s₁ B hml htab hv
  obtain ⟨ha, ⟨hsz, hP, hK, hD0, hE0⟩, hC⟩ := hv
  have hx := B.exec
  have hb := B.bytes
  have hr := B.returns
  have hlocks := B.notSynchronized
  have hts := atoms_spec (ws := wsX7_message) B.pre
  have hown : s.vm.findClass RX7 = some m.cls := findClass_of_methodNamed B.named
  have cx : CallFix p m c cX7_message 3 s args wsX7_message RX7 := ⟨hx, hb, hml, hown, hts⟩
  subst hsz
  have hD := hD0.self (sz := s.heap.size)
  generalize hAe : va_A (oX7 w q qz h t gr u tr oc Sw) s.heap.size = A at hD hE0 ⊢
  have hE : gE A s s.heap := hE0
  have hA : ∀ q : Nat, s.heap.size ≤ q → A q := fun q h => by rw [← hAe]; exact Or.inr h
  have hS : va_S A s.heap s.heap [] := va_S.rf
  refine w_entry ha (Nat.le_of_ble_eq_true rfl) (fun ls hl => ?_)
  refine w_q (fun Q0 hQ => ?_)
  have hl : lv_has ls 3 [(0, .ref (w 0)), (1, .int (nI mm)), (2, .int y)] := hl
  have hP : va_P G vwCl [(w 0, .inr (7, [.ref (q 0), .ref (qz 0), .ref (h 0), .ref (t 0), .ref (gr 0), .ref (u 0), .ref (tr 0), .ref (oc 0), .int (Sw 0 8)]))] s.heap := hP
  have hD : va_D A [(w 0, .inr (7, [.ref (q 0), .ref (qz 0), .ref (h 0), .ref (t 0), .ref (gr 0), .ref (u 0), .ref (tr 0), .ref (oc 0), .int (Sw 0 8)]))] := hD
  skip
  refine w_h (fun H locs hHe hLe => ?_)
  have hP : va_P G vwCl [(w 0, .inr (7, [.ref (q 0), .ref (qz 0), .ref (h 0), .ref (t 0), .ref (gr 0), .ref (u 0), .ref (tr 0), .ref (oc 0), .int (Sw 0 8)]))] H := by rw [hHe]; exact hP
  have hS : va_S A s.heap H locs := by rw [hHe, hLe]; exact hS
  refine lv_iload_n hx hb dX7_message_0 rfl (lv_at hl 1 rfl) ?_
  refine k_roS (As := [.int (nI mm)]) (rest := []) (wc := []) (d := 0) (v := bI (pBt (nI mm) 20)) cx (c_X7_isMessage l G T A (nI mm) ) (va_cwS 1 hts gX7_message_X7_isMessage rfl rfl rfl (by decide +kernel) ⟨Nat.le_of_ble_eq_true rfl, Nat.le_of_ble_eq_true rfl⟩) (hP.sub (ws' := []) [] rfl) hK (hE.kept hS.2.1) rfl hl.1 rfl (Nat.le_of_ble_eq_true rfl) dX7_message_1 ⟨Nat.le_of_ble_eq_true rfl, Nat.le_of_ble_eq_true rfl⟩ ?_
  refine b_if_ne (b := pBt (nI mm) 20) (tgt := 17) hx hb dX7_message_4 (by decide) (fun c_1 => ?_) (fun c_2 => by exfalso; rw [pBt_T hm20 (by decide)] at c_2; cases c_2)
  refine lv_iload_n hx hb dX7_message_17 rfl (lv_at hl 2 rfl) ?_
  refine n_tabO (tgt := 88) hx hb dX7_message_18 0 4 (pBt_O hby (by decide)) rfl rfl (by decide) ?_
  subst hQ
  have hP9 : va_P G vwCl (oX7 w q qz h t gr u tr oc Sw) H := hP
  have hD9 : va_D A (oX7 w q qz h t gr u tr oc Sw) := hD
  exact e_thr hx hb hst (own := RX7) (cls := "java/lang/IllegalArgumentException") "no such number" ["java/lang/RuntimeException", "java/lang/Exception"] (ik := 80) (is := 206) (ic := 84) hown (by decide +kernel) (by decide +kernel) (hts (.classLink RX7 80 "java/lang/IllegalArgumentException") (by decide +kernel)) (hts (.initialized "java/lang/IllegalArgumentException") (by decide +kernel)) (hE.2.1 (RX7, 206, "no such number") (by decide +kernel)) (xt_Z (is := 0) (ik := 0) (text := "") hC (by decide +kernel) (by decide +kernel) (fun w9 hw9 => hts w9 (List.mem_cons_of_mem _ (List.mem_append_right _ hw9)))) (by decide +kernel) hE hS (hl.1.trans hml.symm) dX7_message_88 dX7_message_91 dX7_message_92 dX7_message_94 dX7_message_97 htab ⟨by decide, Nat.le_of_ble_eq_true rfl, Nat.le_of_ble_eq_true rfl, Nat.le_of_ble_eq_true rfl⟩ hlocks ⟨rfl, rfl⟩ rfl hP9 hD9
set_option maxHeartbeats 4000000 in
set_option maxRecDepth 100000 in
theorem c_X7_note (l : Launch) (G : va_G) (T : Nat → ClassId) (A : Nat → Prop) (w : Nat → Nat) (q : Nat → Nat) (qz : Nat → Nat) (h : Nat → Nat) (t : Nat → Nat) (gr : Nat → Nat) (u : Nat → Nat) (tr : Nat → Nat) (oc : Nat → Nat) (Sw : Nat → Nat → Int32) (S : Nat → Nat → Int32) (mm : Nat) (kk : Nat) (hm20 : mm < 20) (hk9 : kk < 8) : RO l yX7_note wsX7_note 2 G T A (oX7 w q qz h t gr u tr oc Sw ++ oX3 T q S) [.ref (w 0), .int (nI mm), .int (nI kk)] (pNote S mm kk) := by
  refine Met.ofW (cc := cX7_note) (maxL := 3) (ret := (some .int)) (by decide) rfl ?_
  intro p e s m args below meth c s₁ B hml hv
  obtain ⟨ha, hP, hK, hE⟩ := hv
  have hx := B.exec
  have hb := B.bytes
  have hr := B.returns
  have hlocks := B.notSynchronized
  have hts := atoms_spec (ws := wsX7_note) B.pre
  have hown : s.vm.findClass RX7 = some m.cls := findClass_of_methodNamed B.named
  have cx : CallFix p m c cX7_note 3 s args wsX7_note RX7 := ⟨hx, hb, hml, hown, hts⟩
  refine w_entry ha (Nat.le_of_ble_eq_true rfl) (fun ls hl => ?_)
  refine w_q (fun Q0 hQ => ?_)
  have lk10 := hts (.fieldLink RX7 10 "WhistleTunes" "school" "LWhistleTunes$School;") (by decide +kernel)
  have hinX7 : ∀ w ∈ wsX70, w ∈ wsX7_note := by decide +kernel
  have lk109 := hts (.fieldLink RX7 109 "WhistleTunes$School" "tuneLengths" "[I") (by decide +kernel)
  have hinX3 : ∀ w ∈ wsX30, w ∈ wsX7_note := by decide +kernel
  have hl : lv_has ls 3 [(0, .ref (w 0)), (1, .int (nI mm)), (2, .int (nI kk))] := hl
  have hP : va_P G vwCl [(w 0, .inr (7, [.ref (q 0), .ref (qz 0), .ref (h 0), .ref (t 0), .ref (gr 0), .ref (u 0), .ref (tr 0), .ref (oc 0), .int (Sw 0 8)])), (q 0, .inr (3, [.int (S 0 0), .int (S 0 1), .int (S 0 2), .int (S 0 3), .ref (q 5), .ref (q 6), .ref (q 7), .ref (q 8), .ref (q 9), .ref (q 10), .ref (q 11), .ref (q 12), .ref (q 13), .ref (q 14), .ref (q 15), .ref (q 16)])), (q 5, .inl (T 0, 2, .inl (S 5))), (q 6, .inl (T 0, 20, .inl (S 6))), (q 7, .inl (T 0, 160, .inl (S 7))), (q 8, .inl (T 0, 20, .inl (S 8))), (q 9, .inl (T 0, 20, .inl (S 9))), (q 10, .inl (T 0, 20, .inl (S 10))), (q 11, .inl (T 0, 6, .inl (S 11))), (q 12, .inl (T 0, 6, .inl (S 12))), (q 13, .inl (T 0, 6, .inl (S 13))), (q 14, .inl (T 0, 6, .inl (S 14))), (q 15, .inl (T 0, 6, .inl (S 15))), (q 16, .inl (T 0, 2, .inl (S 16)))] s.heap := hP
  refine lv_iload_n hx hb dX7_note_0 rfl (lv_at hl 1 rfl) ?_
  refine k_roS (As := [.int (nI mm)]) (rest := []) (wc := []) (d := 0) (v := bI (pBt (nI mm) 20)) cx (c_X7_isMessage l G T A (nI mm) ) (va_cwS 1 hts gX7_note_X7_isMessage rfl rfl rfl (by decide +kernel) ⟨Nat.le_of_ble_eq_true rfl, Nat.le_of_ble_eq_true rfl⟩) (hP.sub (ws' := []) [] rfl) hK hE rfl hl.1 rfl (Nat.le_of_ble_eq_true rfl) dX7_note_1 ⟨Nat.le_of_ble_eq_true rfl, Nat.le_of_ble_eq_true rfl⟩ ?_
  refine b_if_ne (b := pBt (nI mm) 20) (tgt := 17) hx hb dX7_note_4 (by decide) (fun c_1 => ?_) (fun c_2 => by exfalso; rw [pBt_T hm20 (by decide)] at c_2; cases c_2)
  refine lv_iload_n hx hb dX7_note_17 rfl (lv_at hl 2 rfl) ?_
  refine n_if_lt (a := kk) hx hb (by omega) dX7_note_18 27 (by decide) ?_
  refine lv_iload_n hx hb dX7_note_21 rfl (lv_at hl 2 rfl) ?_
  refine lv_bipush (v := nI 8) hx hb dX7_note_22 (by decide) ?_
  refine n_icmp_lt (a := kk) (b := 8) (tgt := 37) hx hb (by omega) (by decide) dX7_note_24 (by decide) (fun c_3 => ?_) (fun c_4 => by exfalso; omega)
  refine lv_iload_n hx hb dX7_note_37 rfl (lv_at hl 2 rfl) ?_
  refine lv_aload_n hx hb dX7_note_38 rfl (lv_at hl 0 rfl) ?_
  refine va_get (D := G) (ci := 7) (v := .ref (q 0)) (C := RX7) (T := TX7) (N := 9) hx hb hts hinX7 hown hK hP 0 rfl rfl 0 (by decide) lk10 (fun _ h9 => h9) rfl dX7_note_39 ?_
  refine va_get (D := G) (ci := 3) (v := .ref (q 6)) (C := RX3) (T := TX3) (N := 16) hx hb hts hinX3 hown hK hP 1 rfl rfl 5 (by decide) lk109 (fun _ h9 => h9) rfl dX7_note_42 ?_
  refine lv_iload_n hx hb dX7_note_45 rfl (lv_at hl 1 rfl) ?_
  refine n_iald hx hb hK hP 3 0 rfl rfl mm (by omega) (by decide) dX7_note_46 ?_
  refine lv_icmp_ge (tgt := 62) hx hb dX7_note_47 (by decide) (fun c_5 => ?_) (fun c_6 => ?_)
  · skip
    refine lv_iconst (v := -1) hx hb dX7_note_62 (by decide) ?_
    subst hQ
    exact e_ro hx hb hr hlocks (by simp [pNote, c_1, c_3, c_5]) dX7_note_63
  · skip
    refine lv_aload_n hx hb dX7_note_50 rfl (lv_at hl 0 rfl) ?_
    refine va_get (D := G) (ci := 7) (v := .ref (q 0)) (C := RX7) (T := TX7) (N := 9) hx hb hts hinX7 hown hK hP 0 rfl rfl 0 (by decide) lk10 (fun _ h9 => h9) rfl dX7_note_51 ?_
    refine lv_iload_n hx hb dX7_note_54 rfl (lv_at hl 1 rfl) ?_
    refine lv_iload_n hx hb dX7_note_55 rfl (lv_at hl 2 rfl) ?_
    refine k_roV (As := [.int (nI mm), .int (nI kk)]) (rest := []) (wc := oX3 T q S) (d := 0) (v := (S 7) (mm * 8 + kk)) cx (c_X3_noteAt l G T A q S mm kk (by omega) (by omega)) (cwV 2 hts gX7_note_X3_noteAt rfl rfl rfl (by decide +kernel) ⟨Nat.le_of_ble_eq_true rfl, Nat.le_of_ble_eq_true rfl⟩) (hP.sub (ws' := oX3 T q S) [1, 2, 3, 4, 5, 6, 7, 8, 9, 10, 11, 12, 13] rfl) hK hE (va_recv hK hP (ci := 3) (q0 := 1) rfl rfl) rfl hl.1 rfl (Nat.le_of_ble_eq_true rfl) dX7_note_56 ⟨Nat.le_of_ble_eq_true rfl, Nat.le_of_ble_eq_true rfl⟩ ?_
    refine lv_goto (tgt := 63) hx hb dX7_note_59 (by decide) ?_
    subst hQ
    exact e_ro hx hb hr hlocks (by simp [pNote, c_1, c_3, c_6]) dX7_note_63
set_option maxHeartbeats 4000000 in
set_option maxRecDepth 100000 in
theorem c_X7_note_t (l : Launch) (hst : l.stackTraces = false) (G : va_G) (T : Nat → ClassId) (sz : Nat) (w : Nat → Nat) (q : Nat → Nat) (qz : Nat → Nat) (h : Nat → Nat) (t : Nat → Nat) (gr : Nat → Nat) (u : Nat → Nat) (tr : Nat → Nat) (oc : Nat → Nat) (Sw : Nat → Nat → Int32) (x : Int32) (y : Int32) (hbx : pBt x 20 = false) : RX l yX7_note wsX7_note 7 G T sz (oX7 w q qz h t gr u tr oc Sw) [.ref (w 0), .int x, .int y] (.inr "java/lang/IndexOutOfBoundsException") (oX7 w q qz h t gr u tr oc Sw) := by
  refine vx_ofW (cc := cX7_note) (maxL := 3) (ret := (some .int)) (by decide) rfl ?_
  intro p e s m args below meth c s₁ B hml htab hv
  obtain ⟨ha, ⟨hsz, hP, hK, hD0, hE0⟩, hC⟩ := hv
  have hx := B.exec
  have hb := B.bytes
  have hr := B.returns
  have hlocks := B.notSynchronized
  have hts := atoms_spec (ws := wsX7_note) B.pre
  have hown : s.vm.findClass RX7 = some m.cls := findClass_of_methodNamed B.named
  have cx : CallFix p m c cX7_note 3 s args wsX7_note RX7 := ⟨hx, hb, hml, hown, hts⟩
  subst hsz
  have hD := hD0.self (sz := s.heap.size)
  generalize hAe : va_A (oX7 w q qz h t gr u tr oc Sw) s.heap.size = A at hD hE0 ⊢
  have hE : gE A s s.heap := hE0
  have hA : ∀ q : Nat, s.heap.size ≤ q → A q := fun q h => by rw [← hAe]; exact Or.inr h
  have hS : va_S A s.heap s.heap [] := va_S.rf
  refine w_entry ha (Nat.le_of_ble_eq_true rfl) (fun ls hl => ?_)
  refine w_q (fun Q0 hQ => ?_)
  have hl : lv_has ls 3 [(0, .ref (w 0)), (1, .int x), (2, .int y)] := hl
  have hP : va_P G vwCl [(w 0, .inr (7, [.ref (q 0), .ref (qz 0), .ref (h 0), .ref (t 0), .ref (gr 0), .ref (u 0), .ref (tr 0), .ref (oc 0), .int (Sw 0 8)]))] s.heap := hP
  have hD : va_D A [(w 0, .inr (7, [.ref (q 0), .ref (qz 0), .ref (h 0), .ref (t 0), .ref (gr 0), .ref (u 0), .ref (tr 0), .ref (oc 0), .int (Sw 0 8)]))] := hD
  skip
  refine w_h (fun H locs hHe hLe => ?_)
  have hP : va_P G vwCl [(w 0, .inr (7, [.ref (q 0), .ref (qz 0), .ref (h 0), .ref (t 0), .ref (gr 0), .ref (u 0), .ref (tr 0), .ref (oc 0), .int (Sw 0 8)]))] H := by rw [hHe]; exact hP
  have hS : va_S A s.heap H locs := by rw [hHe, hLe]; exact hS
  refine lv_iload_n hx hb dX7_note_0 rfl (lv_at hl 1 rfl) ?_
  refine k_roS (As := [.int x]) (rest := []) (wc := []) (d := 0) (v := bI (pBt x 20)) cx (c_X7_isMessage l G T A x ) (va_cwS 1 hts gX7_note_X7_isMessage rfl rfl rfl (by decide +kernel) ⟨Nat.le_of_ble_eq_true rfl, Nat.le_of_ble_eq_true rfl⟩) (hP.sub (ws' := []) [] rfl) hK (hE.kept hS.2.1) rfl hl.1 rfl (Nat.le_of_ble_eq_true rfl) dX7_note_1 ⟨Nat.le_of_ble_eq_true rfl, Nat.le_of_ble_eq_true rfl⟩ ?_
  refine b_if_ne (b := pBt x 20) (tgt := 17) hx hb dX7_note_4 (by decide) (fun c_1 => by exfalso; rw [hbx] at c_1; cases c_1) (fun c_2 => ?_)
  subst hQ
  have hP9 : va_P G vwCl (oX7 w q qz h t gr u tr oc Sw) H := hP
  have hD9 : va_D A (oX7 w q qz h t gr u tr oc Sw) := hD
  exact e_thr hx hb hst (own := RX7) (cls := "java/lang/IndexOutOfBoundsException") "no such message" ["java/lang/RuntimeException", "java/lang/Exception"] (ik := 69) (is := 71) (ic := 73) hown (by decide +kernel) (by decide +kernel) (hts (.classLink RX7 69 "java/lang/IndexOutOfBoundsException") (by decide +kernel)) (hts (.initialized "java/lang/IndexOutOfBoundsException") (by decide +kernel)) (hE.2.1 (RX7, 71, "no such message") (by decide +kernel)) (xt_Z (is := 0) (ik := 0) (text := "") hC (by decide +kernel) (by decide +kernel) (fun w9 hw9 => hts w9 (List.mem_cons_of_mem _ (List.mem_append_left _ (List.mem_append_right _ hw9))))) (by decide +kernel) hE hS (hl.1.trans hml.symm) dX7_note_7 dX7_note_10 dX7_note_11 dX7_note_13 dX7_note_16 htab ⟨by decide, Nat.le_of_ble_eq_true rfl, Nat.le_of_ble_eq_true rfl, Nat.le_of_ble_eq_true rfl⟩ hlocks ⟨rfl, rfl⟩ rfl hP9 hD9
set_option maxHeartbeats 4000000 in
set_option maxRecDepth 100000 in
theorem c_X7_note_t2 (l : Launch) (hst : l.stackTraces = false) (G : va_G) (T : Nat → ClassId) (sz : Nat) (w : Nat → Nat) (q : Nat → Nat) (qz : Nat → Nat) (h : Nat → Nat) (t : Nat → Nat) (gr : Nat → Nat) (u : Nat → Nat) (tr : Nat → Nat) (oc : Nat → Nat) (Sw : Nat → Nat → Int32) (mm : Nat) (y : Int32) (hm20 : mm < 20) (hby : pBt y 8 = false) : RX l yX7_note wsX7_note 7 G T sz (oX7 w q qz h t gr u tr oc Sw) [.ref (w 0), .int (nI mm), .int y] (.inr "java/lang/IllegalArgumentException") (oX7 w q qz h t gr u tr oc Sw) := by
  refine vx_ofW (cc := cX7_note) (maxL := 3) (ret := (some .int)) (by decide) rfl ?_
  intro p e s m args below meth c s₁ B hml htab hv
  obtain ⟨ha, ⟨hsz, hP, hK, hD0, hE0⟩, hC⟩ := hv
  have hx := B.exec
  have hb := B.bytes
  have hr := B.returns
  have hlocks := B.notSynchronized
  have hts := atoms_spec (ws := wsX7_note) B.pre
  have hown : s.vm.findClass RX7 = some m.cls := findClass_of_methodNamed B.named
  have cx : CallFix p m c cX7_note 3 s args wsX7_note RX7 := ⟨hx, hb, hml, hown, hts⟩
  subst hsz
  have hD := hD0.self (sz := s.heap.size)
  generalize hAe : va_A (oX7 w q qz h t gr u tr oc Sw) s.heap.size = A at hD hE0 ⊢
  have hE : gE A s s.heap := hE0
  have hA : ∀ q : Nat, s.heap.size ≤ q → A q := fun q h => by rw [← hAe]; exact Or.inr h
  have hS : va_S A s.heap s.heap [] := va_S.rf
  refine w_entry ha (Nat.le_of_ble_eq_true rfl) (fun ls hl => ?_)
  refine w_q (fun Q0 hQ => ?_)
  have hl : lv_has ls 3 [(0, .ref (w 0)), (1, .int (nI mm)), (2, .int y)] := hl
  have hP : va_P G vwCl [(w 0, .inr (7, [.ref (q 0), .ref (qz 0), .ref (h 0), .ref (t 0), .ref (gr 0), .ref (u 0), .ref (tr 0), .ref (oc 0), .int (Sw 0 8)]))] s.heap := hP
  have hD : va_D A [(w 0, .inr (7, [.ref (q 0), .ref (qz 0), .ref (h 0), .ref (t 0), .ref (gr 0), .ref (u 0), .ref (tr 0), .ref (oc 0), .int (Sw 0 8)]))] := hD
  skip
  refine w_h (fun H locs hHe hLe => ?_)
  have hP : va_P G vwCl [(w 0, .inr (7, [.ref (q 0), .ref (qz 0), .ref (h 0), .ref (t 0), .ref (gr 0), .ref (u 0), .ref (tr 0), .ref (oc 0), .int (Sw 0 8)]))] H := by rw [hHe]; exact hP
  have hS : va_S A s.heap H locs := by rw [hHe, hLe]; exact hS
  refine lv_iload_n hx hb dX7_note_0 rfl (lv_at hl 1 rfl) ?_
  refine k_roS (As := [.int (nI mm)]) (rest := []) (wc := []) (d := 0) (v := bI (pBt (nI mm) 20)) cx (c_X7_isMessage l G T A (nI mm) ) (va_cwS 1 hts gX7_note_X7_isMessage rfl rfl rfl (by decide +kernel) ⟨Nat.le_of_ble_eq_true rfl, Nat.le_of_ble_eq_true rfl⟩) (hP.sub (ws' := []) [] rfl) hK (hE.kept hS.2.1) rfl hl.1 rfl (Nat.le_of_ble_eq_true rfl) dX7_note_1 ⟨Nat.le_of_ble_eq_true rfl, Nat.le_of_ble_eq_true rfl⟩ ?_
  refine b_if_ne (b := pBt (nI mm) 20) (tgt := 17) hx hb dX7_note_4 (by decide) (fun c_1 => ?_) (fun c_2 => by exfalso; rw [pBt_T hm20 (by decide)] at c_2; cases c_2)
  refine lv_iload_n hx hb dX7_note_17 rfl (lv_at hl 2 rfl) ?_
  refine lv_if_lt (tgt := 27) hx hb dX7_note_18 (by decide) (fun c_3 => ?_) (fun c_4 => ?_)
  · skip
    subst hQ
    have hP9 : va_P G vwCl (oX7 w q qz h t gr u tr oc Sw) H := hP
    have hD9 : va_D A (oX7 w q qz h t gr u tr oc Sw) := hD
    exact e_thr hx hb hst (own := RX7) (cls := "java/lang/IllegalArgumentException") "no such place" ["java/lang/RuntimeException", "java/lang/Exception"] (ik := 80) (is := 227) (ic := 84) hown (by decide +kernel) (by decide +kernel) (hts (.classLink RX7 80 "java/lang/IllegalArgumentException") (by decide +kernel)) (hts (.initialized "java/lang/IllegalArgumentException") (by decide +kernel)) (hE.2.1 (RX7, 227, "no such place") (by decide +kernel)) (xt_Z (is := 0) (ik := 0) (text := "") hC (by decide +kernel) (by decide +kernel) (fun w9 hw9 => hts w9 (List.mem_cons_of_mem _ (List.mem_append_right _ hw9)))) (by decide +kernel) hE hS (hl.1.trans hml.symm) dX7_note_27 dX7_note_30 dX7_note_31 dX7_note_33 dX7_note_36 htab ⟨by decide, Nat.le_of_ble_eq_true rfl, Nat.le_of_ble_eq_true rfl, Nat.le_of_ble_eq_true rfl⟩ hlocks ⟨rfl, rfl⟩ rfl hP9 hD9
  · skip
    refine lv_iload_n hx hb dX7_note_21 rfl (lv_at hl 2 rfl) ?_
    refine lv_bipush (v := nI 8) hx hb dX7_note_22 (by decide) ?_
    refine lv_icmp_lt (tgt := 37) hx hb dX7_note_24 (by decide) (fun c_5 => by exfalso; exact pBt_X hby (by assumption) c_5) (fun c_6 => ?_)
    subst hQ
    have hP9 : va_P G vwCl (oX7 w q qz h t gr u tr oc Sw) H := hP
    have hD9 : va_D A (oX7 w q qz h t gr u tr oc Sw) := hD
    exact e_thr hx hb hst (own := RX7) (cls := "java/lang/IllegalArgumentException") "no such place" ["java/lang/RuntimeException", "java/lang/Exception"] (ik := 80) (is := 227) (ic := 84) hown (by decide +kernel) (by decide +kernel) (hts (.classLink RX7 80 "java/lang/IllegalArgumentException") (by decide +kernel)) (hts (.initialized "java/lang/IllegalArgumentException") (by decide +kernel)) (hE.2.1 (RX7, 227, "no such place") (by decide +kernel)) (xt_Z (is := 0) (ik := 0) (text := "") hC (by decide +kernel) (by decide +kernel) (fun w9 hw9 => hts w9 (List.mem_cons_of_mem _ (List.mem_append_right _ hw9)))) (by decide +kernel) hE hS (hl.1.trans hml.symm) dX7_note_27 dX7_note_30 dX7_note_31 dX7_note_33 dX7_note_36 htab ⟨by decide, Nat.le_of_ble_eq_true rfl, Nat.le_of_ble_eq_true rfl, Nat.le_of_ble_eq_true rfl⟩ hlocks ⟨rfl, rfl⟩ rfl hP9 hD9
set_option maxHeartbeats 4000000 in
set_option maxRecDepth 100000 in
theorem c_X7_room (l : Launch) (G : va_G) (T : Nat → ClassId) (A : Nat → Prop) (w : Nat → Nat) (q : Nat → Nat) (qz : Nat → Nat) (h : Nat → Nat) (t : Nat → Nat) (gr : Nat → Nat) (u : Nat → Nat) (tr : Nat → Nat) (oc : Nat → Nat) (Sw : Nat → Nat → Int32) (S : Nat → Nat → Int32) (rr : Nat) (kk : Nat) (hr6 : rr < 6) (hk9 : kk < 6) : RO l yX7_room wsX7_room 2 G T A (oX7 w q qz h t gr u tr oc Sw ++ oX3 T q S) [.ref (w 0), .int (nI rr), .int (nI kk)] (pRm S rr kk) := by
  refine Met.ofW (cc := cX7_room) (maxL := 3) (ret := (some .int)) (by decide) rfl ?_
  intro p e s m args below meth c s₁ B hml hv
  obtain ⟨ha, hP, hK, hE⟩ := hv
  have hx := B.exec
  have hb := B.bytes
  have hr := B.returns
  have hlocks := B.notSynchronized
  have hts := atoms_spec (ws := wsX7_room) B.pre
  have hown : s.vm.findClass RX7 = some m.cls := findClass_of_methodNamed B.named
  have cx : CallFix p m c cX7_room 3 s args wsX7_room RX7 := ⟨hx, hb, hml, hown, hts⟩
  refine w_entry ha (Nat.le_of_ble_eq_true rfl) (fun ls hl => ?_)
  refine w_q (fun Q0 hQ => ?_)
  have lk10 := hts (.fieldLink RX7 10 "WhistleTunes" "school" "LWhistleTunes$School;") (by decide +kernel)
  have hinX7 : ∀ w ∈ wsX70, w ∈ wsX7_room := by decide +kernel
  have lk126 := hts (.fieldLink RX7 126 "WhistleTunes$School" "roomKeys" "[I") (by decide +kernel)
  have hinX3 : ∀ w ∈ wsX30, w ∈ wsX7_room := by decide +kernel
  have lk232 := hts (.fieldLink RX7 232 "WhistleTunes$School" "roomMarks" "[I") (by decide +kernel)
  have lk235 := hts (.fieldLink RX7 235 "WhistleTunes$School" "raisedRooms" "I") (by decide +kernel)
  have lk241 := hts (.fieldLink RX7 241 "WhistleTunes$School" "roomUnderstood" "[I") (by decide +kernel)
  have lk244 := hts (.fieldLink RX7 244 "WhistleTunes$School" "roomNoise" "[I") (by decide +kernel)
  have hl : lv_has ls 3 [(0, .ref (w 0)), (1, .int (nI rr)), (2, .int (nI kk))] := hl
  have hP : va_P G vwCl [(w 0, .inr (7, [.ref (q 0), .ref (qz 0), .ref (h 0), .ref (t 0), .ref (gr 0), .ref (u 0), .ref (tr 0), .ref (oc 0), .int (Sw 0 8)])), (q 0, .inr (3, [.int (S 0 0), .int (S 0 1), .int (S 0 2), .int (S 0 3), .ref (q 5), .ref (q 6), .ref (q 7), .ref (q 8), .ref (q 9), .ref (q 10), .ref (q 11), .ref (q 12), .ref (q 13), .ref (q 14), .ref (q 15), .ref (q 16)])), (q 5, .inl (T 0, 2, .inl (S 5))), (q 6, .inl (T 0, 20, .inl (S 6))), (q 7, .inl (T 0, 160, .inl (S 7))), (q 8, .inl (T 0, 20, .inl (S 8))), (q 9, .inl (T 0, 20, .inl (S 9))), (q 10, .inl (T 0, 20, .inl (S 10))), (q 11, .inl (T 0, 6, .inl (S 11))), (q 12, .inl (T 0, 6, .inl (S 12))), (q 13, .inl (T 0, 6, .inl (S 13))), (q 14, .inl (T 0, 6, .inl (S 14))), (q 15, .inl (T 0, 6, .inl (S 15))), (q 16, .inl (T 0, 2, .inl (S 16)))] s.heap := hP
  refine lv_iload_n hx hb dX7_room_0 rfl (lv_at hl 1 rfl) ?_
  refine k_roS (As := [.int (nI rr)]) (rest := []) (wc := []) (d := 0) (v := bI (pBt (nI rr) 6)) cx (c_X7_isRoom l G T A (nI rr) ) (va_cwS 1 hts gX7_room_X7_isRoom rfl rfl rfl (by decide +kernel) ⟨Nat.le_of_ble_eq_true rfl, Nat.le_of_ble_eq_true rfl⟩) (hP.sub (ws' := []) [] rfl) hK hE rfl hl.1 rfl (Nat.le_of_ble_eq_true rfl) dX7_room_1 ⟨Nat.le_of_ble_eq_true rfl, Nat.le_of_ble_eq_true rfl⟩ ?_
  refine b_if_ne (b := pBt (nI rr) 6) (tgt := 17) hx hb dX7_room_4 (by decide) (fun c_1 => ?_) (fun c_2 => by exfalso; rw [pBt_T hr6 (by decide)] at c_2; cases c_2)
  refine lv_iload_n hx hb dX7_room_17 rfl (lv_at hl 2 rfl) ?_
  rcases (show kk = 0 ∨ kk = 1 ∨ kk = 2 ∨ kk = 3 ∨ kk = 4 ∨ kk = 5 by omega) with rfl | rfl | rfl | rfl | rfl | rfl
  · skip
    refine n_tab (a := 0) (off := 38) (tgt := 56) hx hb (by decide) dX7_room_18 (by decide) (by decide) rfl (by decide) ?_
    refine lv_aload_n hx hb dX7_room_56 rfl (lv_at hl 0 rfl) ?_
    refine va_get (D := G) (ci := 7) (v := .ref (q 0)) (C := RX7) (T := TX7) (N := 9) hx hb hts hinX7 hown hK hP 0 rfl rfl 0 (by decide) lk10 (fun _ h9 => h9) rfl dX7_room_57 ?_
    refine va_get (D := G) (ci := 3) (v := .ref (q 11)) (C := RX3) (T := TX3) (N := 16) hx hb hts hinX3 hown hK hP 1 rfl rfl 10 (by decide) lk126 (fun _ h9 => h9) rfl dX7_room_60 ?_
    refine lv_iload_n hx hb dX7_room_63 rfl (lv_at hl 1 rfl) ?_
    refine n_iald hx hb hK hP 8 0 rfl rfl rr (by omega) (by decide) dX7_room_64 ?_
    subst hQ
    exact e_ro hx hb hr hlocks (by first | rfl | (show _ = bI _; rw [c_1]; rfl)) dX7_room_65
  · skip
    refine n_tab (a := 1) (off := 48) (tgt := 66) hx hb (by decide) dX7_room_18 (by decide) (by decide) rfl (by decide) ?_
    refine lv_aload_n hx hb dX7_room_66 rfl (lv_at hl 0 rfl) ?_
    refine va_get (D := G) (ci := 7) (v := .ref (q 0)) (C := RX7) (T := TX7) (N := 9) hx hb hts hinX7 hown hK hP 0 rfl rfl 0 (by decide) lk10 (fun _ h9 => h9) rfl dX7_room_67 ?_
    refine va_get (D := G) (ci := 3) (v := .ref (q 12)) (C := RX3) (T := TX3) (N := 16) hx hb hts hinX3 hown hK hP 1 rfl rfl 11 (by decide) lk232 (fun _ h9 => h9) rfl dX7_room_70 ?_
    refine lv_iload_n hx hb dX7_room_73 rfl (lv_at hl 1 rfl) ?_
    refine n_iald hx hb hK hP 9 0 rfl rfl rr (by omega) (by decide) dX7_room_74 ?_
    subst hQ
    exact e_ro hx hb hr hlocks (by first | rfl | (show _ = bI _; rw [c_1]; rfl)) dX7_room_75
  · skip
    refine n_tab (a := 2) (off := 58) (tgt := 76) hx hb (by decide) dX7_room_18 (by decide) (by decide) rfl (by decide) ?_
    refine lv_aload_n hx hb dX7_room_76 rfl (lv_at hl 0 rfl) ?_
    refine va_get (D := G) (ci := 7) (v := .ref (q 0)) (C := RX7) (T := TX7) (N := 9) hx hb hts hinX7 hown hK hP 0 rfl rfl 0 (by decide) lk10 (fun _ h9 => h9) rfl dX7_room_77 ?_
    refine va_get (D := G) (ci := 3) (v := .int (S 0 3)) (C := RX3) (T := TX3) (N := 16) hx hb hts hinX3 hown hK hP 1 rfl rfl 3 (by decide) lk235 (fun _ h9 => h9) rfl dX7_room_80 ?_
    refine lv_iload_n hx hb dX7_room_83 rfl (lv_at hl 1 rfl) ?_
    refine k_roS (As := [.int (S 0 3), .int (nI rr)]) (rest := []) (wc := []) (d := 0) (v := bI (pHB (S 0 3) (nI rr))) cx (c_X7_hasBit l G T A (S 0 3) (nI rr) ) (va_cwS 2 hts gX7_room_X7_hasBit rfl rfl rfl (by decide +kernel) ⟨Nat.le_of_ble_eq_true rfl, Nat.le_of_ble_eq_true rfl⟩) (hP.sub (ws' := []) [] rfl) hK hE rfl hl.1 rfl (Nat.le_of_ble_eq_true rfl) dX7_room_84 ⟨Nat.le_of_ble_eq_true rfl, Nat.le_of_ble_eq_true rfl⟩ ?_
    refine b_if_eq (b := pHB (S 0 3) (nI rr)) (tgt := 94) hx hb dX7_room_87 (by decide) (fun c_3 => ?_) (fun c_4 => ?_)
    · skip
      refine n_iconst hx hb 0 dX7_room_94 (by decide) ?_
      subst hQ
      exact e_ro hx hb hr hlocks (by first | rfl | (show _ = bI _; rw [c_3]; rfl)) dX7_room_95
    · skip
      refine n_iconst hx hb 1 dX7_room_90 (by decide) ?_
      refine lv_goto (tgt := 95) hx hb dX7_room_91 (by decide) ?_
      subst hQ
      exact e_ro hx hb hr hlocks (by first | rfl | (show _ = bI _; rw [c_4]; rfl)) dX7_room_95
  · skip
    refine n_tab (a := 3) (off := 78) (tgt := 96) hx hb (by decide) dX7_room_18 (by decide) (by decide) rfl (by decide) ?_
    refine lv_aload_n hx hb dX7_room_96 rfl (lv_at hl 0 rfl) ?_
    refine va_get (D := G) (ci := 7) (v := .ref (q 0)) (C := RX7) (T := TX7) (N := 9) hx hb hts hinX7 hown hK hP 0 rfl rfl 0 (by decide) lk10 (fun _ h9 => h9) rfl dX7_room_97 ?_
    refine lv_iload_n hx hb dX7_room_100 rfl (lv_at hl 1 rfl) ?_
    refine k_roV (As := [.int (nI rr)]) (rest := []) (wc := oX3 T q S) (d := 0) (v := bI (pSil S rr)) cx (c_X3_isSilenced l G T A q S rr (by omega)) (cwV 1 hts gX7_room_X3_isSilenced rfl rfl rfl (by decide +kernel) ⟨Nat.le_of_ble_eq_true rfl, Nat.le_of_ble_eq_true rfl⟩) (hP.sub (ws' := oX3 T q S) [1, 2, 3, 4, 5, 6, 7, 8, 9, 10, 11, 12, 13] rfl) hK hE (va_recv hK hP (ci := 3) (q0 := 1) rfl rfl) rfl hl.1 rfl (Nat.le_of_ble_eq_true rfl) dX7_room_101 ⟨Nat.le_of_ble_eq_true rfl, Nat.le_of_ble_eq_true rfl⟩ ?_
    refine b_if_eq (b := pSil S rr) (tgt := 111) hx hb dX7_room_104 (by decide) (fun c_5 => ?_) (fun c_6 => ?_)
    · skip
      refine n_iconst hx hb 0 dX7_room_111 (by decide) ?_
      subst hQ
      exact e_ro hx hb hr hlocks (by first | rfl | (show _ = bI _; rw [c_5]; rfl)) dX7_room_112
    · skip
      refine n_iconst hx hb 1 dX7_room_107 (by decide) ?_
      refine lv_goto (tgt := 112) hx hb dX7_room_108 (by decide) ?_
      subst hQ
      exact e_ro hx hb hr hlocks (by first | rfl | (show _ = bI _; rw [c_6]; rfl)) dX7_room_112
  · skip
    refine n_tab (a := 4) (off := 95) (tgt := 113) hx hb (by decide) dX7_room_18 (by decide) (by decide) rfl (by decide) ?_
    refine lv_aload_n hx hb dX7_room_113 rfl (lv_at hl 0 rfl) ?_
    refine va_get (D := G) (ci := 7) (v := .ref (q 0)) (C := RX7) (T := TX7) (N := 9) hx hb hts hinX7 hown hK hP 0 rfl rfl 0 (by decide) lk10 (fun _ h9 => h9) rfl dX7_room_114 ?_
    refine va_get (D := G) (ci := 3) (v := .ref (q 13)) (C := RX3) (T := TX3) (N := 16) hx hb hts hinX3 hown hK hP 1 rfl rfl 12 (by decide) lk241 (fun _ h9 => h9) rfl dX7_room_117 ?_
    refine lv_iload_n hx hb dX7_room_120 rfl (lv_at hl 1 rfl) ?_
    refine n_iald hx hb hK hP 10 0 rfl rfl rr (by omega) (by decide) dX7_room_121 ?_
    subst hQ
    exact e_ro hx hb hr hlocks (by first | rfl | (show _ = bI _; rw [c_1]; rfl)) dX7_room_122
  · skip
    refine n_tab (a := 5) (off := 105) (tgt := 123) hx hb (by decide) dX7_room_18 (by decide) (by decide) rfl (by decide) ?_
    refine lv_aload_n hx hb dX7_room_123 rfl (lv_at hl 0 rfl) ?_
    refine va_get (D := G) (ci := 7) (v := .ref (q 0)) (C := RX7) (T := TX7) (N := 9) hx hb hts hinX7 hown hK hP 0 rfl rfl 0 (by decide) lk10 (fun _ h9 => h9) rfl dX7_room_124 ?_
    refine va_get (D := G) (ci := 3) (v := .ref (q 14)) (C := RX3) (T := TX3) (N := 16) hx hb hts hinX3 hown hK hP 1 rfl rfl 13 (by decide) lk244 (fun _ h9 => h9) rfl dX7_room_127 ?_
    refine lv_iload_n hx hb dX7_room_130 rfl (lv_at hl 1 rfl) ?_
    refine n_iald hx hb hK hP 11 0 rfl rfl rr (by omega) (by decide) dX7_room_131 ?_
    subst hQ
    exact e_ro hx hb hr hlocks (by first | rfl | (show _ = bI _; rw [c_1]; rfl)) dX7_room_132
set_option maxHeartbeats 4000000 in
set_option maxRecDepth 100000 in
theorem c_X7_room_t (l : Launch) (hst : l.stackTraces = false) (G : va_G) (T : Nat → ClassId) (sz : Nat) (w : Nat → Nat) (q : Nat → Nat) (qz : Nat → Nat) (h : Nat → Nat) (t : Nat → Nat) (gr : Nat → Nat) (u : Nat → Nat) (tr : Nat → Nat) (oc : Nat → Nat) (Sw : Nat → Nat → Int32) (x : Int32) (y : Int32) (hbx : pBt x 6 = false) : RX l yX7_room wsX7_room 7 G T sz (oX7 w q qz h t gr u tr oc Sw) [.ref (w 0), .int x, .int y] (.inr "java/lang/IndexOutOfBoundsException") (oX7 w q qz h t gr u tr oc Sw) := by
  refine vx_ofW (cc := cX7_room) (maxL := 3) (ret := (some .int)) (by decide) rfl ?_
  intro p e s m args below meth c s₁ B hml htab hv
  obtain ⟨ha, ⟨hsz, hP, hK, hD0, hE0⟩, hC⟩ := hv
  have hx := B.exec
  have hb := B.bytes
  have hr := B.returns
  have hlocks := B.notSynchronized
  have hts := atoms_spec (ws := wsX7_room) B.pre
  have hown : s.vm.findClass RX7 = some m.cls := findClass_of_methodNamed B.named
  have cx : CallFix p m c cX7_room 3 s args wsX7_room RX7 := ⟨hx, hb, hml, hown, hts⟩
  subst hsz
  have hD := hD0.self (sz := s.heap.size)
  generalize hAe : va_A (oX7 w q qz h t gr u tr oc Sw) s.heap.size = A at hD hE0 ⊢
  have hE : gE A s s.heap := hE0
  have hA : ∀ q : Nat, s.heap.size ≤ q → A q := fun q h => by rw [← hAe]; exact Or.inr h
  have hS : va_S A s.heap s.heap [] := va_S.rf
  refine w_entry ha (Nat.le_of_ble_eq_true rfl) (fun ls hl => ?_)
  refine w_q (fun Q0 hQ => ?_)
  have hl : lv_has ls 3 [(0, .ref (w 0)), (1, .int x), (2, .int y)] := hl
  have hP : va_P G vwCl [(w 0, .inr (7, [.ref (q 0), .ref (qz 0), .ref (h 0), .ref (t 0), .ref (gr 0), .ref (u 0), .ref (tr 0), .ref (oc 0), .int (Sw 0 8)]))] s.heap := hP
  have hD : va_D A [(w 0, .inr (7, [.ref (q 0), .ref (qz 0), .ref (h 0), .ref (t 0), .ref (gr 0), .ref (u 0), .ref (tr 0), .ref (oc 0), .int (Sw 0 8)]))] := hD
  skip
  refine w_h (fun H locs hHe hLe => ?_)
  have hP : va_P G vwCl [(w 0, .inr (7, [.ref (q 0), .ref (qz 0), .ref (h 0), .ref (t 0), .ref (gr 0), .ref (u 0), .ref (tr 0), .ref (oc 0), .int (Sw 0 8)]))] H := by rw [hHe]; exact hP
  have hS : va_S A s.heap H locs := by rw [hHe, hLe]; exact hS
  refine lv_iload_n hx hb dX7_room_0 rfl (lv_at hl 1 rfl) ?_
  refine k_roS (As := [.int x]) (rest := []) (wc := []) (d := 0) (v := bI (pBt x 6)) cx (c_X7_isRoom l G T A x ) (va_cwS 1 hts gX7_room_X7_isRoom rfl rfl rfl (by decide +kernel) ⟨Nat.le_of_ble_eq_true rfl, Nat.le_of_ble_eq_true rfl⟩) (hP.sub (ws' := []) [] rfl) hK (hE.kept hS.2.1) rfl hl.1 rfl (Nat.le_of_ble_eq_true rfl) dX7_room_1 ⟨Nat.le_of_ble_eq_true rfl, Nat.le_of_ble_eq_true rfl⟩ ?_
  refine b_if_ne (b := pBt x 6) (tgt := 17) hx hb dX7_room_4 (by decide) (fun c_1 => by exfalso; rw [hbx] at c_1; cases c_1) (fun c_2 => ?_)
  subst hQ
  have hP9 : va_P G vwCl (oX7 w q qz h t gr u tr oc Sw) H := hP
  have hD9 : va_D A (oX7 w q qz h t gr u tr oc Sw) := hD
  exact e_thr hx hb hst (own := RX7) (cls := "java/lang/IndexOutOfBoundsException") "no such room" ["java/lang/RuntimeException", "java/lang/Exception"] (ik := 69) (is := 124) (ic := 73) hown (by decide +kernel) (by decide +kernel) (hts (.classLink RX7 69 "java/lang/IndexOutOfBoundsException") (by decide +kernel)) (hts (.initialized "java/lang/IndexOutOfBoundsException") (by decide +kernel)) (hE.2.1 (RX7, 124, "no such room") (by decide +kernel)) (xt_Z (is := 0) (ik := 0) (text := "") hC (by decide +kernel) (by decide +kernel) (fun w9 hw9 => hts w9 (List.mem_cons_of_mem _ (List.mem_append_left _ (List.mem_append_right _ hw9))))) (by decide +kernel) hE hS (hl.1.trans hml.symm) dX7_room_7 dX7_room_10 dX7_room_11 dX7_room_13 dX7_room_16 htab ⟨by decide, Nat.le_of_ble_eq_true rfl, Nat.le_of_ble_eq_true rfl, Nat.le_of_ble_eq_true rfl⟩ hlocks ⟨rfl, rfl⟩ rfl hP9 hD9
set_option maxHeartbeats 4000000 in
set_option maxRecDepth 100000 in
theorem c_X7_room_t2 (l : Launch) (hst : l.stackTraces = false) (G : va_G) (T : Nat → ClassId) (sz : Nat) (w : Nat → Nat) (q : Nat → Nat) (qz : Nat → Nat) (h : Nat → Nat) (t : Nat → Nat) (gr : Nat → Nat) (u : Nat → Nat) (tr : Nat → Nat) (oc : Nat → Nat) (Sw : Nat → Nat → Int32) (rr : Nat) (y : Int32) (hr6 : rr < 6) (hby : pBt y 6 = false) : RX l yX7_room wsX7_room 7 G T sz (oX7 w q qz h t gr u tr oc Sw) [.ref (w 0), .int (nI rr), .int y] (.inr "java/lang/IllegalArgumentException") (oX7 w q qz h t gr u tr oc Sw) := by
  refine vx_ofW (cc := cX7_room) (maxL := 3) (ret := (some .int)) (by decide) rfl ?_
  intro p e s m args below meth c s₁ B hml htab hv
  obtain ⟨ha, ⟨hsz, hP, hK, hD0, hE0⟩, hC⟩ := hv
  have hx := B.exec
  have hb := B.bytes
  have hr := B.returns
  have hlocks := B.notSynchronized
  have hts := atoms_spec (ws := wsX7_room) B.pre
  have hown : s.vm.findClass RX7 = some m.cls := findClass_of_methodNamed B.named
  have cx : CallFix p m c cX7_room 3 s args wsX7_room RX7 := ⟨hx, hb, hml, hown, hts⟩
  subst hsz
  have hD := hD0.self (sz := s.heap.size)
  generalize hAe : va_A (oX7 w q qz h t gr u tr oc Sw) s.heap.size = A at hD hE0 ⊢
  have hE : gE A s s.heap := hE0
  have hA : ∀ q : Nat, s.heap.size ≤ q → A q := fun q h => by rw [← hAe]; exact Or.inr h
  have hS : va_S A s.heap s.heap [] := va_S.rf
  refine w_entry ha (Nat.le_of_ble_eq_true rfl) (fun ls hl => ?_)
  refine w_q (fun Q0 hQ => ?_)
  have hl : lv_has ls 3 [(0, .ref (w 0)), (1, .int (nI rr)), (2, .int y)] := hl
  have hP : va_P G vwCl [(w 0, .inr (7, [.ref (q 0), .ref (qz 0), .ref (h 0), .ref (t 0), .ref (gr 0), .ref (u 0), .ref (tr 0), .ref (oc 0), .int (Sw 0 8)]))] s.heap := hP
  have hD : va_D A [(w 0, .inr (7, [.ref (q 0), .ref (qz 0), .ref (h 0), .ref (t 0), .ref (gr 0), .ref (u 0), .ref (tr 0), .ref (oc 0), .int (Sw 0 8)]))] := hD
  skip
  refine w_h (fun H locs hHe hLe => ?_)
  have hP : va_P G vwCl [(w 0, .inr (7, [.ref (q 0), .ref (qz 0), .ref (h 0), .ref (t 0), .ref (gr 0), .ref (u 0), .ref (tr 0), .ref (oc 0), .int (Sw 0 8)]))] H := by rw [hHe]; exact hP
  have hS : va_S A s.heap H locs := by rw [hHe, hLe]; exact hS
  refine lv_iload_n hx hb dX7_room_0 rfl (lv_at hl 1 rfl) ?_
  refine k_roS (As := [.int (nI rr)]) (rest := []) (wc := []) (d := 0) (v := bI (pBt (nI rr) 6)) cx (c_X7_isRoom l G T A (nI rr) ) (va_cwS 1 hts gX7_room_X7_isRoom rfl rfl rfl (by decide +kernel) ⟨Nat.le_of_ble_eq_true rfl, Nat.le_of_ble_eq_true rfl⟩) (hP.sub (ws' := []) [] rfl) hK (hE.kept hS.2.1) rfl hl.1 rfl (Nat.le_of_ble_eq_true rfl) dX7_room_1 ⟨Nat.le_of_ble_eq_true rfl, Nat.le_of_ble_eq_true rfl⟩ ?_
  refine b_if_ne (b := pBt (nI rr) 6) (tgt := 17) hx hb dX7_room_4 (by decide) (fun c_1 => ?_) (fun c_2 => by exfalso; rw [pBt_T hr6 (by decide)] at c_2; cases c_2)
  refine lv_iload_n hx hb dX7_room_17 rfl (lv_at hl 2 rfl) ?_
  refine n_tabO (tgt := 133) hx hb dX7_room_18 0 6 (pBt_O hby (by decide)) rfl rfl (by decide) ?_
  subst hQ
  have hP9 : va_P G vwCl (oX7 w q qz h t gr u tr oc Sw) H := hP
  have hD9 : va_D A (oX7 w q qz h t gr u tr oc Sw) := hD
  exact e_thr hx hb hst (own := RX7) (cls := "java/lang/IllegalArgumentException") "no such number" ["java/lang/RuntimeException", "java/lang/Exception"] (ik := 80) (is := 206) (ic := 84) hown (by decide +kernel) (by decide +kernel) (hts (.classLink RX7 80 "java/lang/IllegalArgumentException") (by decide +kernel)) (hts (.initialized "java/lang/IllegalArgumentException") (by decide +kernel)) (hE.2.1 (RX7, 206, "no such number") (by decide +kernel)) (xt_Z (is := 0) (ik := 0) (text := "") hC (by decide +kernel) (by decide +kernel) (fun w9 hw9 => hts w9 (List.mem_cons_of_mem _ (List.mem_append_right _ hw9)))) (by decide +kernel) hE hS (hl.1.trans hml.symm) dX7_room_133 dX7_room_136 dX7_room_137 dX7_room_139 dX7_room_142 htab ⟨by decide, Nat.le_of_ble_eq_true rfl, Nat.le_of_ble_eq_true rfl, Nat.le_of_ble_eq_true rfl⟩ hlocks ⟨rfl, rfl⟩ rfl hP9 hD9
set_option maxHeartbeats 4000000 in
set_option maxRecDepth 100000 in
theorem c_X7_whyNot (l : Launch) (G : va_G) (T : Nat → ClassId) (A : Nat → Prop) (w : Nat → Nat) (q : Nat → Nat) (qz : Nat → Nat) (h : Nat → Nat) (t : Nat → Nat) (gr : Nat → Nat) (u : Nat → Nat) (tr : Nat → Nat) (oc : Nat → Nat) (Sw : Nat → Nat → Int32) (S : Nat → Nat → Int32) (rr : Nat) (mm : Nat) (hr6 : rr < 6) (hm20 : mm < 20) : RO l yX7_whyNot wsX7_whyNot 3 G T A (oX7 w q qz h t gr u tr oc Sw ++ oX3 T q S) [.ref (w 0), .int (nI rr), .int (nI mm)] (pWhy S rr mm) := by
  refine Met.ofW (cc := cX7_whyNot) (maxL := 3) (ret := (some .int)) (by decide) rfl ?_
  intro p e s m args below meth c s₁ B hml hv
  obtain ⟨ha, hP, hK, hE⟩ := hv
  have hx := B.exec
  have hb := B.bytes
  have hr := B.returns
  have hlocks := B.notSynchronized
  have hts := atoms_spec (ws := wsX7_whyNot) B.pre
  have hown : s.vm.findClass RX7 = some m.cls := findClass_of_methodNamed B.named
  have cx : CallFix p m c cX7_whyNot 3 s args wsX7_whyNot RX7 := ⟨hx, hb, hml, hown, hts⟩
  refine w_entry ha (Nat.le_of_ble_eq_true rfl) (fun ls hl => ?_)
  refine w_q (fun Q0 hQ => ?_)
  have lk10 := hts (.fieldLink RX7 10 "WhistleTunes" "school" "LWhistleTunes$School;") (by decide +kernel)
  have hinX7 : ∀ w ∈ wsX70, w ∈ wsX7_whyNot := by decide +kernel
  have hl : lv_has ls 3 [(0, .ref (w 0)), (1, .int (nI rr)), (2, .int (nI mm))] := hl
  have hP : va_P G vwCl [(w 0, .inr (7, [.ref (q 0), .ref (qz 0), .ref (h 0), .ref (t 0), .ref (gr 0), .ref (u 0), .ref (tr 0), .ref (oc 0), .int (Sw 0 8)])), (q 0, .inr (3, [.int (S 0 0), .int (S 0 1), .int (S 0 2), .int (S 0 3), .ref (q 5), .ref (q 6), .ref (q 7), .ref (q 8), .ref (q 9), .ref (q 10), .ref (q 11), .ref (q 12), .ref (q 13), .ref (q 14), .ref (q 15), .ref (q 16)])), (q 5, .inl (T 0, 2, .inl (S 5))), (q 6, .inl (T 0, 20, .inl (S 6))), (q 7, .inl (T 0, 160, .inl (S 7))), (q 8, .inl (T 0, 20, .inl (S 8))), (q 9, .inl (T 0, 20, .inl (S 9))), (q 10, .inl (T 0, 20, .inl (S 10))), (q 11, .inl (T 0, 6, .inl (S 11))), (q 12, .inl (T 0, 6, .inl (S 12))), (q 13, .inl (T 0, 6, .inl (S 13))), (q 14, .inl (T 0, 6, .inl (S 14))), (q 15, .inl (T 0, 6, .inl (S 15))), (q 16, .inl (T 0, 2, .inl (S 16)))] s.heap := hP
  refine lv_iload_n hx hb dX7_whyNot_0 rfl (lv_at hl 1 rfl) ?_
  refine k_roS (As := [.int (nI rr)]) (rest := []) (wc := []) (d := 0) (v := bI (pBt (nI rr) 6)) cx (c_X7_isRoom l G T A (nI rr) ) (va_cwS 1 hts gX7_whyNot_X7_isRoom rfl rfl rfl (by decide +kernel) ⟨Nat.le_of_ble_eq_true rfl, Nat.le_of_ble_eq_true rfl⟩) (hP.sub (ws' := []) [] rfl) hK hE rfl hl.1 rfl (Nat.le_of_ble_eq_true rfl) dX7_whyNot_1 ⟨Nat.le_of_ble_eq_true rfl, Nat.le_of_ble_eq_true rfl⟩ ?_
  refine b_if_eq (b := pBt (nI rr) 6) (tgt := 14) hx hb dX7_whyNot_4 (by decide) (fun c_1 => by exfalso; rw [pBt_T hr6 (by decide)] at c_1; cases c_1) (fun c_2 => ?_)
  refine lv_iload_n hx hb dX7_whyNot_7 rfl (lv_at hl 2 rfl) ?_
  refine k_roS (As := [.int (nI mm)]) (rest := []) (wc := []) (d := 0) (v := bI (pBt (nI mm) 20)) cx (c_X7_isMessage l G T A (nI mm) ) (va_cwS 1 hts gX7_whyNot_X7_isMessage rfl rfl rfl (by decide +kernel) ⟨Nat.le_of_ble_eq_true rfl, Nat.le_of_ble_eq_true rfl⟩) (hP.sub (ws' := []) [] rfl) hK hE rfl hl.1 rfl (Nat.le_of_ble_eq_true rfl) dX7_whyNot_8 ⟨Nat.le_of_ble_eq_true rfl, Nat.le_of_ble_eq_true rfl⟩ ?_
  refine b_if_ne (b := pBt (nI mm) 20) (tgt := 24) hx hb dX7_whyNot_11 (by decide) (fun c_3 => ?_) (fun c_4 => by exfalso; rw [pBt_T hm20 (by decide)] at c_4; cases c_4)
  refine lv_aload_n hx hb dX7_whyNot_24 rfl (lv_at hl 0 rfl) ?_
  refine va_get (D := G) (ci := 7) (v := .ref (q 0)) (C := RX7) (T := TX7) (N := 9) hx hb hts hinX7 hown hK hP 0 rfl rfl 0 (by decide) lk10 (fun _ h9 => h9) rfl dX7_whyNot_25 ?_
  refine lv_iload_n hx hb dX7_whyNot_28 rfl (lv_at hl 1 rfl) ?_
  refine lv_iload_n hx hb dX7_whyNot_29 rfl (lv_at hl 2 rfl) ?_
  refine k_roV (As := [.int (nI rr), .int (nI mm)]) (rest := []) (wc := oX3 T q S) (d := 1) (v := pWhy S rr mm) cx (c_X3_reasonAgainst l G T A q S rr mm (by omega) (by omega)) (cwV 2 hts gX7_whyNot_X3_reasonAgainst rfl rfl rfl (by decide +kernel) ⟨Nat.le_of_ble_eq_true rfl, Nat.le_of_ble_eq_true rfl⟩) (hP.sub (ws' := oX3 T q S) [1, 2, 3, 4, 5, 6, 7, 8, 9, 10, 11, 12, 13] rfl) hK hE (va_recv hK hP (ci := 3) (q0 := 1) rfl rfl) rfl hl.1 rfl (Nat.le_of_ble_eq_true rfl) dX7_whyNot_30 ⟨Nat.le_of_ble_eq_true rfl, Nat.le_of_ble_eq_true rfl⟩ ?_
  subst hQ
  exact e_ro hx hb hr hlocks rfl dX7_whyNot_33
set_option maxHeartbeats 4000000 in
set_option maxRecDepth 100000 in
theorem c_X7_whyNot_t (l : Launch) (hst : l.stackTraces = false) (G : va_G) (T : Nat → ClassId) (sz : Nat) (w : Nat → Nat) (q : Nat → Nat) (qz : Nat → Nat) (h : Nat → Nat) (t : Nat → Nat) (gr : Nat → Nat) (u : Nat → Nat) (tr : Nat → Nat) (oc : Nat → Nat) (Sw : Nat → Nat → Int32) (x : Int32) (y : Int32) (hbx : pBt x 6 = false) : RX l yX7_whyNot wsX7_whyNot 7 G T sz (oX7 w q qz h t gr u tr oc Sw) [.ref (w 0), .int x, .int y] (.inr "java/lang/IndexOutOfBoundsException") (oX7 w q qz h t gr u tr oc Sw) := by
  refine vx_ofW (cc := cX7_whyNot) (maxL := 3) (ret := (some .int)) (by decide) rfl ?_
  intro p e s m args below meth c s₁ B hml htab hv
  obtain ⟨ha, ⟨hsz, hP, hK, hD0, hE0⟩, hC⟩ := hv
  have hx := B.exec
  have hb := B.bytes
  have hr := B.returns
  have hlocks := B.notSynchronized
  have hts := atoms_spec (ws := wsX7_whyNot) B.pre
  have hown : s.vm.findClass RX7 = some m.cls := findClass_of_methodNamed B.named
  have cx : CallFix p m c cX7_whyNot 3 s args wsX7_whyNot RX7 := ⟨hx, hb, hml, hown, hts⟩
  subst hsz
  have hD := hD0.self (sz := s.heap.size)
  generalize hAe : va_A (oX7 w q qz h t gr u tr oc Sw) s.heap.size = A at hD hE0 ⊢
  have hE : gE A s s.heap := hE0
  have hA : ∀ q : Nat, s.heap.size ≤ q → A q := fun q h => by rw [← hAe]; exact Or.inr h
  have hS : va_S A s.heap s.heap [] := va_S.rf
  refine w_entry ha (Nat.le_of_ble_eq_true rfl) (fun ls hl => ?_)
  refine w_q (fun Q0 hQ => ?_)
  have hl : lv_has ls 3 [(0, .ref (w 0)), (1, .int x), (2, .int y)] := hl
  have hP : va_P G vwCl [(w 0, .inr (7, [.ref (q 0), .ref (qz 0), .ref (h 0), .ref (t 0), .ref (gr 0), .ref (u 0), .ref (tr 0), .ref (oc 0), .int (Sw 0 8)]))] s.heap := hP
  have hD : va_D A [(w 0, .inr (7, [.ref (q 0), .ref (qz 0), .ref (h 0), .ref (t 0), .ref (gr 0), .ref (u 0), .ref (tr 0), .ref (oc 0), .int (Sw 0 8)]))] := hD
  skip
  refine w_h (fun H locs hHe hLe => ?_)
  have hP : va_P G vwCl [(w 0, .inr (7, [.ref (q 0), .ref (qz 0), .ref (h 0), .ref (t 0), .ref (gr 0), .ref (u 0), .ref (tr 0), .ref (oc 0), .int (Sw 0 8)]))] H := by rw [hHe]; exact hP
  have hS : va_S A s.heap H locs := by rw [hHe, hLe]; exact hS
  refine lv_iload_n hx hb dX7_whyNot_0 rfl (lv_at hl 1 rfl) ?_
  refine k_roS (As := [.int x]) (rest := []) (wc := []) (d := 0) (v := bI (pBt x 6)) cx (c_X7_isRoom l G T A x ) (va_cwS 1 hts gX7_whyNot_X7_isRoom rfl rfl rfl (by decide +kernel) ⟨Nat.le_of_ble_eq_true rfl, Nat.le_of_ble_eq_true rfl⟩) (hP.sub (ws' := []) [] rfl) hK (hE.kept hS.2.1) rfl hl.1 rfl (Nat.le_of_ble_eq_true rfl) dX7_whyNot_1 ⟨Nat.le_of_ble_eq_true rfl, Nat.le_of_ble_eq_true rfl⟩ ?_
  refine b_if_eq (b := pBt x 6) (tgt := 14) hx hb dX7_whyNot_4 (by decide) (fun c_1 => ?_) (fun c_2 => by exfalso; rw [hbx] at c_2; cases c_2)
  subst hQ
  have hP9 : va_P G vwCl (oX7 w q qz h t gr u tr oc Sw) H := hP
  have hD9 : va_D A (oX7 w q qz h t gr u tr oc Sw) := hD
  exact e_thr hx hb hst (own := RX7) (cls := "java/lang/IndexOutOfBoundsException") "no such room or message" ["java/lang/RuntimeException", "java/lang/Exception"] (ik := 69) (is := 164) (ic := 73) hown (by decide +kernel) (by decide +kernel) (hts (.classLink RX7 69 "java/lang/IndexOutOfBoundsException") (by decide +kernel)) (hts (.initialized "java/lang/IndexOutOfBoundsException") (by decide +kernel)) (hE.2.1 (RX7, 164, "no such room or message") (by decide +kernel)) (xt_Z (is := 0) (ik := 0) (text := "") hC (by decide +kernel) (by decide +kernel) (fun w9 hw9 => hts w9 (List.mem_cons_of_mem _ (List.mem_append_right _ hw9)))) (by decide +kernel) hE hS (hl.1.trans hml.symm) dX7_whyNot_14 dX7_whyNot_17 dX7_whyNot_18 dX7_whyNot_20 dX7_whyNot_23 htab ⟨by decide, Nat.le_of_ble_eq_true rfl, Nat.le_of_ble_eq_true rfl, Nat.le_of_ble_eq_true rfl⟩ hlocks ⟨rfl, rfl⟩ rfl hP9 hD9
set_option maxHeartbeats 4000000 in
set_option maxRecDepth 100000 in
theorem c_X7_whyNot_t2 (l : Launch) (hst : l.stackTraces = false) (G : va_G) (T : Nat → ClassId) (sz : Nat) (w : Nat → Nat) (q : Nat → Nat) (qz : Nat → Nat) (h : Nat → Nat) (t : Nat → Nat) (gr : Nat → Nat) (u : Nat → Nat) (tr : Nat → Nat) (oc : Nat → Nat) (Sw : Nat → Nat → Int32) (rr : Nat) (y : Int32) (hr6 : rr < 6) (hby : pBt y 20 = false) : RX l yX7_whyNot wsX7_whyNot 7 G T sz (oX7 w q qz h t gr u tr oc Sw) [.ref (w 0), .int (nI rr), .int y] (.inr "java/lang/IndexOutOfBoundsException") (oX7 w q qz h t gr u tr oc Sw) := by
  refine vx_ofW (cc := cX7_whyNot) (maxL := 3) (ret := (some .int)) (by decide) rfl ?_
  intro p e s m args below meth c s₁ B hml htab hv
  obtain ⟨ha, ⟨hsz, hP, hK, hD0, hE0⟩, hC⟩ := hv
  have hx := B.exec
  have hb := B.bytes
  have hr := B.returns
  have hlocks := B.notSynchronized
  have hts := atoms_spec (ws := wsX7_whyNot) B.pre
  have hown : s.vm.findClass RX7 = some m.cls := findClass_of_methodNamed B.named
  have cx : CallFix p m c cX7_whyNot 3 s args wsX7_whyNot RX7 := ⟨hx, hb, hml, hown, hts⟩
  subst hsz
  have hD := hD0.self (sz := s.heap.size)
  generalize hAe : va_A (oX7 w q qz h t gr u tr oc Sw) s.heap.size = A at hD hE0 ⊢
  have hE : gE A s s.heap := hE0
  have hA : ∀ q : Nat, s.heap.size ≤ q → A q := fun q h => by rw [← hAe]; exact Or.inr h
  have hS : va_S A s.heap s.heap [] := va_S.rf
  refine w_entry ha (Nat.le_of_ble_eq_true rfl) (fun ls hl => ?_)
  refine w_q (fun Q0 hQ => ?_)
  have hl : lv_has ls 3 [(0, .ref (w 0)), (1, .int (nI rr)), (2, .int y)] := hl
  have hP : va_P G vwCl [(w 0, .inr (7, [.ref (q 0), .ref (qz 0), .ref (h 0), .ref (t 0), .ref (gr 0), .ref (u 0), .ref (tr 0), .ref (oc 0), .int (Sw 0 8)]))] s.heap := hP
  have hD : va_D A [(w 0, .inr (7, [.ref (q 0), .ref (qz 0), .ref (h 0), .ref (t 0), .ref (gr 0), .ref (u 0), .ref (tr 0), .ref (oc 0), .int (Sw 0 8)]))] := hD
  skip
  refine w_h (fun H locs hHe hLe => ?_)
  have hP : va_P G vwCl [(w 0, .inr (7, [.ref (q 0), .ref (qz 0), .ref (h 0), .ref (t 0), .ref (gr 0), .ref (u 0), .ref (tr 0), .ref (oc 0), .int (Sw 0 8)]))] H := by rw [hHe]; exact hP
  have hS : va_S A s.heap H locs := by rw [hHe, hLe]; exact hS
  refine lv_iload_n hx hb dX7_whyNot_0 rfl (lv_at hl 1 rfl) ?_
  refine k_roS (As := [.int (nI rr)]) (rest := []) (wc := []) (d := 0) (v := bI (pBt (nI rr) 6)) cx (c_X7_isRoom l G T A (nI rr) ) (va_cwS 1 hts gX7_whyNot_X7_isRoom rfl rfl rfl (by decide +kernel) ⟨Nat.le_of_ble_eq_true rfl, Nat.le_of_ble_eq_true rfl⟩) (hP.sub (ws' := []) [] rfl) hK (hE.kept hS.2.1) rfl hl.1 rfl (Nat.le_of_ble_eq_true rfl) dX7_whyNot_1 ⟨Nat.le_of_ble_eq_true rfl, Nat.le_of_ble_eq_true rfl⟩ ?_
  refine b_if_eq (b := pBt (nI rr) 6) (tgt := 14) hx hb dX7_whyNot_4 (by decide) (fun c_1 => by exfalso; rw [pBt_T hr6 (by decide)] at c_1; cases c_1) (fun c_2 => ?_)
  refine lv_iload_n hx hb dX7_whyNot_7 rfl (lv_at hl 2 rfl) ?_
  refine k_roS (As := [.int y]) (rest := []) (wc := []) (d := 0) (v := bI (pBt y 20)) cx (c_X7_isMessage l G T A y ) (va_cwS 1 hts gX7_whyNot_X7_isMessage rfl rfl rfl (by decide +kernel) ⟨Nat.le_of_ble_eq_true rfl, Nat.le_of_ble_eq_true rfl⟩) (hP.sub (ws' := []) [] rfl) hK (hE.kept hS.2.1) rfl hl.1 rfl (Nat.le_of_ble_eq_true rfl) dX7_whyNot_8 ⟨Nat.le_of_ble_eq_true rfl, Nat.le_of_ble_eq_true rfl⟩ ?_
  refine b_if_ne (b := pBt y 20) (tgt := 24) hx hb dX7_whyNot_11 (by decide) (fun c_3 => by exfalso; rw [hby] at c_3; cases c_3) (fun c_4 => ?_)
  subst hQ
  have hP9 : va_P G vwCl (oX7 w q qz h t gr u tr oc Sw) H := hP
  have hD9 : va_D A (oX7 w q qz h t gr u tr oc Sw) := hD
  exact e_thr hx hb hst (own := RX7) (cls := "java/lang/IndexOutOfBoundsException") "no such room or message" ["java/lang/RuntimeException", "java/lang/Exception"] (ik := 69) (is := 164) (ic := 73) hown (by decide +kernel) (by decide +kernel) (hts (.classLink RX7 69 "java/lang/IndexOutOfBoundsException") (by decide +kernel)) (hts (.initialized "java/lang/IndexOutOfBoundsException") (by decide +kernel)) (hE.2.1 (RX7, 164, "no such room or message") (by decide +kernel)) (xt_Z (is := 0) (ik := 0) (text := "") hC (by decide +kernel) (by decide +kernel) (fun w9 hw9 => hts w9 (List.mem_cons_of_mem _ (List.mem_append_right _ hw9)))) (by decide +kernel) hE hS (hl.1.trans hml.symm) dX7_whyNot_14 dX7_whyNot_17 dX7_whyNot_18 dX7_whyNot_20 dX7_whyNot_23 htab ⟨by decide, Nat.le_of_ble_eq_true rfl, Nat.le_of_ble_eq_true rfl, Nat.le_of_ble_eq_true rfl⟩ hlocks ⟨rfl, rfl⟩ rfl hP9 hD9
set_option maxHeartbeats 4000000 in
set_option maxRecDepth 100000 in
theorem c_X7_count (l : Launch) (G : va_G) (T : Nat → ClassId) (A : Nat → Prop) (w : Nat → Nat) (q : Nat → Nat) (qz : Nat → Nat) (h : Nat → Nat) (t : Nat → Nat) (gr : Nat → Nat) (u : Nat → Nat) (tr : Nat → Nat) (oc : Nat → Nat) (Sw : Nat → Nat → Int32) (S : Nat → Nat → Int32) (Sh : Nat → Nat → Int32) (qs : Nat → Nat → Nat) (Hs : Nat → Nat → Nat → Int32) (n : Nat) (kk : Nat) (hn : Sh 0 2 = nI n) (hk9 : kk < 14) (hk3 : ¬ kk = 3) : RO l yX7_count wsX7_count 2 G T A (oX7 w q qz h t gr u tr oc Sw ++ oX3 T q S ++ oX1 T h qs Sh Hs) [.ref (w 0), .int (nI kk)] (pCt S n kk) := by
  refine Met.ofW (cc := cX7_count) (maxL := 2) (ret := (some .int)) (by decide) rfl ?_
  intro p e s m args below meth c s₁ B hml hv
  obtain ⟨ha, hP, hK, hE⟩ := hv
  have hx := B.exec
  have hb := B.bytes
  have hr := B.returns
  have hlocks := B.notSynchronized
  have hts := atoms_spec (ws := wsX7_count) B.pre
  have hown : s.vm.findClass RX7 = some m.cls := findClass_of_methodNamed B.named
  have cx : CallFix p m c cX7_count 2 s args wsX7_count RX7 := ⟨hx, hb, hml, hown, hts⟩
  refine w_entry ha (Nat.le_of_ble_eq_true rfl) (fun ls hl => ?_)
  refine w_q (fun Q0 hQ => ?_)
  have lk10 := hts (.fieldLink RX7 10 "WhistleTunes" "school" "LWhistleTunes$School;") (by decide +kernel)
  have hinX7 : ∀ w ∈ wsX70, w ∈ wsX7_count := by decide +kernel
  have lk151 := hts (.fieldLink RX7 151 "WhistleTunes$School" "night" "I") (by decide +kernel)
  have hinX3 : ∀ w ∈ wsX30, w ∈ wsX7_count := by decide +kernel
  have lk118 := hts (.fieldLink RX7 118 "WhistleTunes$School" "keyOfNow" "I") (by decide +kernel)
  have lk131 := hts (.fieldLink RX7 131 "WhistleTunes$School" "awakeFloors" "I") (by decide +kernel)
  have lk235 := hts (.fieldLink RX7 235 "WhistleTunes$School" "raisedRooms" "I") (by decide +kernel)
  have lk221 := hts (.fieldLink RX7 221 "WhistleTunes$School" "timesWhistled" "[I") (by decide +kernel)
  have lk232 := hts (.fieldLink RX7 232 "WhistleTunes$School" "roomMarks" "[I") (by decide +kernel)
  have lk161 := hts (.fieldLink RX7 161 "WhistleTunes$School" "settings" "[I") (by decide +kernel)
  have lk22 := hts (.fieldLink RX7 22 "WhistleTunes" "history" "LWhistleTunes$History;") (by decide +kernel)
  have lk208 := hts (.fieldLink RX7 208 "WhistleTunes$History" "size" "I") (by decide +kernel)
  have hinX1 : ∀ w ∈ wsX10, w ∈ wsX7_count := by decide +kernel
  have hl : lv_has ls 2 [(0, .ref (w 0)), (1, .int (nI kk))] := hl
  have hP : va_P G vwCl ([(w 0, .inr (7, [.ref (q 0), .ref (qz 0), .ref (h 0), .ref (t 0), .ref (gr 0), .ref (u 0), .ref (tr 0), .ref (oc 0), .int (Sw 0 8)])), (q 0, .inr (3, [.int (S 0 0), .int (S 0 1), .int (S 0 2), .int (S 0 3), .ref (q 5), .ref (q 6), .ref (q 7), .ref (q 8), .ref (q 9), .ref (q 10), .ref (q 11), .ref (q 12), .ref (q 13), .ref (q 14), .ref (q 15), .ref (q 16)])), (q 5, .inl (T 0, 2, .inl (S 5))), (q 6, .inl (T 0, 20, .inl (S 6))), (q 7, .inl (T 0, 160, .inl (S 7))), (q 8, .inl (T 0, 20, .inl (S 8))), (q 9, .inl (T 0, 20, .inl (S 9))), (q 10, .inl (T 0, 20, .inl (S 10))), (q 11, .inl (T 0, 6, .inl (S 11))), (q 12, .inl (T 0, 6, .inl (S 12))), (q 13, .inl (T 0, 6, .inl (S 13))), (q 14, .inl (T 0, 6, .inl (S 14))), (q 15, .inl (T 0, 6, .inl (S 15))), (q 16, .inl (T 0, 2, .inl (S 16)))] ++ oX1 T h qs Sh Hs) s.heap := hP
  refine lv_iload_n hx hb dX7_count_0 rfl (lv_at hl 1 rfl) ?_
  rcases (show kk = 0 ∨ kk = 1 ∨ kk = 2 ∨ kk = 3 ∨ kk = 4 ∨ kk = 5 ∨ kk = 6 ∨ kk = 7 ∨ kk = 8 ∨ kk = 9 ∨ kk = 10 ∨ kk = 11 ∨ kk = 12 ∨ kk = 13 by omega) with rfl | rfl | rfl | rfl | rfl | rfl | rfl | rfl | rfl | rfl | rfl | rfl | rfl | rfl
  · skip
    refine n_tab (a := 0) (off := 71) (tgt := 72) hx hb (by decide) dX7_count_1 (by decide) (by decide) rfl (by decide) ?_
    refine lv_aload_n hx hb dX7_count_72 rfl (lv_at hl 0 rfl) ?_
    refine va_get (D := G) (ci := 7) (v := .ref (q 0)) (C := RX7) (T := TX7) (N := 9) hx hb hts hinX7 hown hK hP 0 rfl rfl 0 (by decide) lk10 (fun _ h9 => h9) rfl dX7_count_73 ?_
    refine va_get (D := G) (ci := 3) (v := .int (S 0 0)) (C := RX3) (T := TX3) (N := 16) hx hb hts hinX3 hown hK hP 1 rfl rfl 0 (by decide) lk151 (fun _ h9 => h9) rfl dX7_count_76 ?_
    subst hQ
    exact e_ro hx hb hr hlocks (by first | rfl | exact hn) dX7_count_79
  · skip
    refine n_tab (a := 1) (off := 79) (tgt := 80) hx hb (by decide) dX7_count_1 (by decide) (by decide) rfl (by decide) ?_
    refine lv_aload_n hx hb dX7_count_80 rfl (lv_at hl 0 rfl) ?_
    refine va_get (D := G) (ci := 7) (v := .ref (q 0)) (C := RX7) (T := TX7) (N := 9) hx hb hts hinX7 hown hK hP 0 rfl rfl 0 (by decide) lk10 (fun _ h9 => h9) rfl dX7_count_81 ?_
    refine va_get (D := G) (ci := 3) (v := .int (S 0 1)) (C := RX3) (T := TX3) (N := 16) hx hb hts hinX3 hown hK hP 1 rfl rfl 1 (by decide) lk118 (fun _ h9 => h9) rfl dX7_count_84 ?_
    subst hQ
    exact e_ro hx hb hr hlocks (by first | rfl | exact hn) dX7_count_87
  · skip
    refine n_tab (a := 2) (off := 87) (tgt := 88) hx hb (by decide) dX7_count_1 (by decide) (by decide) rfl (by decide) ?_
    refine lv_aload_n hx hb dX7_count_88 rfl (lv_at hl 0 rfl) ?_
    refine va_get (D := G) (ci := 7) (v := .ref (q 0)) (C := RX7) (T := TX7) (N := 9) hx hb hts hinX7 hown hK hP 0 rfl rfl 0 (by decide) lk10 (fun _ h9 => h9) rfl dX7_count_89 ?_
    refine k_roV (As := []) (rest := []) (wc := oX3 T q S) (d := 0) (v := nI (pMT S 20)) cx (c_X3_messagesWithTune l G T A q S ) (cwV 0 hts gX7_count_X3_messagesWithTune rfl rfl rfl (by decide +kernel) ⟨Nat.le_of_ble_eq_true rfl, Nat.le_of_ble_eq_true rfl⟩) (hP.sub (ws' := oX3 T q S) [1, 2, 3, 4, 5, 6, 7, 8, 9, 10, 11, 12, 13] rfl) hK hE (va_recv hK hP (ci := 3) (q0 := 1) rfl rfl) rfl hl.1 rfl (Nat.le_of_ble_eq_true rfl) dX7_count_92 ⟨Nat.le_of_ble_eq_true rfl, Nat.le_of_ble_eq_true rfl⟩ ?_
    subst hQ
    exact e_ro hx hb hr hlocks (by first | rfl | exact hn) dX7_count_95
  · exfalso; omega
  · skip
    refine n_tab (a := 4) (off := 114) (tgt := 115) hx hb (by decide) dX7_count_1 (by decide) (by decide) rfl (by decide) ?_
    refine lv_aload_n hx hb dX7_count_115 rfl (lv_at hl 0 rfl) ?_
    refine va_get (D := G) (ci := 7) (v := .ref (q 0)) (C := RX7) (T := TX7) (N := 9) hx hb hts hinX7 hown hK hP 0 rfl rfl 0 (by decide) lk10 (fun _ h9 => h9) rfl dX7_count_116 ?_
    refine k_roV (As := []) (rest := []) (wc := oX3 T q S) (d := 1) (v := pLT S 20) cx (c_X3_longestTune l G T A q S ) (cwV 0 hts gX7_count_X3_longestTune rfl rfl rfl (by decide +kernel) ⟨Nat.le_of_ble_eq_true rfl, Nat.le_of_ble_eq_true rfl⟩) (hP.sub (ws' := oX3 T q S) [1, 2, 3, 4, 5, 6, 7, 8, 9, 10, 11, 12, 13] rfl) hK hE (va_recv hK hP (ci := 3) (q0 := 1) rfl rfl) rfl hl.1 rfl (Nat.le_of_ble_eq_true rfl) dX7_count_119 ⟨Nat.le_of_ble_eq_true rfl, Nat.le_of_ble_eq_true rfl⟩ ?_
    subst hQ
    exact e_ro hx hb hr hlocks (by first | rfl | exact hn) dX7_count_122
  · skip
    refine n_tab (a := 5) (off := 122) (tgt := 123) hx hb (by decide) dX7_count_1 (by decide) (by decide) rfl (by decide) ?_
    refine lv_aload_n hx hb dX7_count_123 rfl (lv_at hl 0 rfl) ?_
    refine va_get (D := G) (ci := 7) (v := .ref (q 0)) (C := RX7) (T := TX7) (N := 9) hx hb hts hinX7 hown hK hP 0 rfl rfl 0 (by decide) lk10 (fun _ h9 => h9) rfl dX7_count_124 ?_
    refine va_get (D := G) (ci := 3) (v := .int (S 0 2)) (C := RX3) (T := TX3) (N := 16) hx hb hts hinX3 hown hK hP 1 rfl rfl 2 (by decide) lk131 (fun _ h9 => h9) rfl dX7_count_127 ?_
    subst hQ
    exact e_ro hx hb hr hlocks (by first | rfl | exact hn) dX7_count_130
  · skip
    refine n_tab (a := 6) (off := 130) (tgt := 131) hx hb (by decide) dX7_count_1 (by decide) (by decide) rfl (by decide) ?_
    refine lv_aload_n hx hb dX7_count_131 rfl (lv_at hl 0 rfl) ?_
    refine va_get (D := G) (ci := 7) (v := .ref (q 0)) (C := RX7) (T := TX7) (N := 9) hx hb hts hinX7 hown hK hP 0 rfl rfl 0 (by decide) lk10 (fun _ h9 => h9) rfl dX7_count_132 ?_
    refine va_get (D := G) (ci := 3) (v := .int (S 0 3)) (C := RX3) (T := TX3) (N := 16) hx hb hts hinX3 hown hK hP 1 rfl rfl 3 (by decide) lk235 (fun _ h9 => h9) rfl dX7_count_135 ?_
    refine k_roS (As := [.int (S 0 3)]) (rest := []) (wc := []) (d := 0) (v := pBC (S 0 3)) cx (c_J6_bitCount_0f7a4 l G T A (S 0 3) ) (va_cwS 1 hts gX7_count_J6_bitCount_0f7a4 rfl rfl rfl (by decide +kernel) ⟨Nat.le_of_ble_eq_true rfl, Nat.le_of_ble_eq_true rfl⟩) (hP.sub (ws' := []) [] rfl) hK hE rfl hl.1 rfl (Nat.le_of_ble_eq_true rfl) dX7_count_138 ⟨Nat.le_of_ble_eq_true rfl, Nat.le_of_ble_eq_true rfl⟩ ?_
    subst hQ
    exact e_ro hx hb hr hlocks (by first | rfl | exact hn) dX7_count_141
  · skip
    refine n_tab (a := 7) (off := 141) (tgt := 142) hx hb (by decide) dX7_count_1 (by decide) (by decide) rfl (by decide) ?_
    refine lv_aload_n hx hb dX7_count_142 rfl (lv_at hl 0 rfl) ?_
    refine va_get (D := G) (ci := 7) (v := .ref (q 0)) (C := RX7) (T := TX7) (N := 9) hx hb hts hinX7 hown hK hP 0 rfl rfl 0 (by decide) lk10 (fun _ h9 => h9) rfl dX7_count_143 ?_
    refine k_roV (As := []) (rest := []) (wc := oX3 T q S) (d := 1) (v := nI (pSR S 6)) cx (c_X3_silencedRooms l G T A q S ) (cwV 0 hts gX7_count_X3_silencedRooms rfl rfl rfl (by decide +kernel) ⟨Nat.le_of_ble_eq_true rfl, Nat.le_of_ble_eq_true rfl⟩) (hP.sub (ws' := oX3 T q S) [1, 2, 3, 4, 5, 6, 7, 8, 9, 10, 11, 12, 13] rfl) hK hE (va_recv hK hP (ci := 3) (q0 := 1) rfl rfl) rfl hl.1 rfl (Nat.le_of_ble_eq_true rfl) dX7_count_146 ⟨Nat.le_of_ble_eq_true rfl, Nat.le_of_ble_eq_true rfl⟩ ?_
    subst hQ
    exact e_ro hx hb hr hlocks (by first | rfl | exact hn) dX7_count_149
  · skip
    refine n_tab (a := 8) (off := 149) (tgt := 150) hx hb (by decide) dX7_count_1 (by decide) (by decide) rfl (by decide) ?_
    refine lv_aload_n hx hb dX7_count_150 rfl (lv_at hl 0 rfl) ?_
    refine va_get (D := G) (ci := 7) (v := .ref (q 0)) (C := RX7) (T := TX7) (N := 9) hx hb hts hinX7 hown hK hP 0 rfl rfl 0 (by decide) lk10 (fun _ h9 => h9) rfl dX7_count_151 ?_
    refine va_get (D := G) (ci := 3) (v := .ref (q 9)) (C := RX3) (T := TX3) (N := 16) hx hb hts hinX3 hown hK hP 1 rfl rfl 8 (by decide) lk221 (fun _ h9 => h9) rfl dX7_count_154 ?_
    refine k_roS (As := [.ref (q 9)]) (rest := []) (wc := [(q 9, .inl (T 0, 20, .inl (S 9)))]) (d := 0) (v := pSm (S 9) 20) cx (c_X7_sumOf l G T A (q 9) (S 9) 20 (by decide)) (va_cwS 1 hts gX7_count_X7_sumOf rfl rfl rfl (by decide +kernel) ⟨Nat.le_of_ble_eq_true rfl, Nat.le_of_ble_eq_true rfl⟩) (hP.sub (ws' := [(q 9, .inl (T 0, 20, .inl (S 9)))]) [6] rfl) hK hE rfl hl.1 rfl (Nat.le_of_ble_eq_true rfl) dX7_count_157 ⟨Nat.le_of_ble_eq_true rfl, Nat.le_of_ble_eq_true rfl⟩ ?_
    subst hQ
    exact e_ro hx hb hr hlocks (by first | rfl | exact hn) dX7_count_160
  · skip
    refine n_tab (a := 9) (off := 160) (tgt := 161) hx hb (by decide) dX7_count_1 (by decide) (by decide) rfl (by decide) ?_
    refine lv_aload_n hx hb dX7_count_161 rfl (lv_at hl 0 rfl) ?_
    refine va_get (D := G) (ci := 7) (v := .ref (q 0)) (C := RX7) (T := TX7) (N := 9) hx hb hts hinX7 hown hK hP 0 rfl rfl 0 (by decide) lk10 (fun _ h9 => h9) rfl dX7_count_162 ?_
    refine va_get (D := G) (ci := 3) (v := .ref (q 12)) (C := RX3) (T := TX3) (N := 16) hx hb hts hinX3 hown hK hP 1 rfl rfl 11 (by decide) lk232 (fun _ h9 => h9) rfl dX7_count_165 ?_
    refine k_roS (As := [.ref (q 12)]) (rest := []) (wc := [(q 12, .inl (T 0, 6, .inl (S 12)))]) (d := 0) (v := pSm (S 12) 6) cx (c_X7_sumOf l G T A (q 12) (S 12) 6 (by decide)) (va_cwS 1 hts gX7_count_X7_sumOf rfl rfl rfl (by decide +kernel) ⟨Nat.le_of_ble_eq_true rfl, Nat.le_of_ble_eq_true rfl⟩) (hP.sub (ws' := [(q 12, .inl (T 0, 6, .inl (S 12)))]) [9] rfl) hK hE rfl hl.1 rfl (Nat.le_of_ble_eq_true rfl) dX7_count_168 ⟨Nat.le_of_ble_eq_true rfl, Nat.le_of_ble_eq_true rfl⟩ ?_
    subst hQ
    exact e_ro hx hb hr hlocks (by first | rfl | exact hn) dX7_count_171
  · skip
    refine n_tab (a := 10) (off := 171) (tgt := 172) hx hb (by decide) dX7_count_1 (by decide) (by decide) rfl (by decide) ?_
    refine lv_aload_n hx hb dX7_count_172 rfl (lv_at hl 0 rfl) ?_
    refine va_get (D := G) (ci := 7) (v := .ref (q 0)) (C := RX7) (T := TX7) (N := 9) hx hb hts hinX7 hown hK hP 0 rfl rfl 0 (by decide) lk10 (fun _ h9 => h9) rfl dX7_count_173 ?_
    refine lv_aload_n hx hb dX7_count_176 rfl (lv_at hl 0 rfl) ?_
    refine va_get (D := G) (ci := 7) (v := .ref (q 0)) (C := RX7) (T := TX7) (N := 9) hx hb hts hinX7 hown hK hP 0 rfl rfl 0 (by decide) lk10 (fun _ h9 => h9) rfl dX7_count_177 ?_
    refine va_get (D := G) (ci := 3) (v := .int (S 0 1)) (C := RX3) (T := TX3) (N := 16) hx hb hts hinX3 hown hK hP 1 rfl rfl 1 (by decide) lk118 (fun _ h9 => h9) rfl dX7_count_180 ?_
    refine k_roV (As := [.int (S 0 1)]) (rest := []) (wc := oX3 T q S) (d := 0) (v := pRK S (S 0 1) 6) cx (c_X3_roomsOfKey l G T A q S (S 0 1) ) (cwV 1 hts gX7_count_X3_roomsOfKey rfl rfl rfl (by decide +kernel) ⟨Nat.le_of_ble_eq_true rfl, Nat.le_of_ble_eq_true rfl⟩) (hP.sub (ws' := oX3 T q S) [1, 2, 3, 4, 5, 6, 7, 8, 9, 10, 11, 12, 13] rfl) hK hE (va_recv hK hP (ci := 3) (q0 := 1) rfl rfl) rfl hl.1 rfl (Nat.le_of_ble_eq_true rfl) dX7_count_183 ⟨Nat.le_of_ble_eq_true rfl, Nat.le_of_ble_eq_true rfl⟩ ?_
    subst hQ
    exact e_ro hx hb hr hlocks (by first | rfl | exact hn) dX7_count_186
  · skip
    refine n_tab (a := 11) (off := 186) (tgt := 187) hx hb (by decide) dX7_count_1 (by decide) (by decide) rfl (by decide) ?_
    refine lv_aload_n hx hb dX7_count_187 rfl (lv_at hl 0 rfl) ?_
    refine va_get (D := G) (ci := 7) (v := .ref (q 0)) (C := RX7) (T := TX7) (N := 9) hx hb hts hinX7 hown hK hP 0 rfl rfl 0 (by decide) lk10 (fun _ h9 => h9) rfl dX7_count_188 ?_
    refine va_get (D := G) (ci := 3) (v := .ref (q 5)) (C := RX3) (T := TX3) (N := 16) hx hb hts hinX3 hown hK hP 1 rfl rfl 4 (by decide) lk161 (fun _ h9 => h9) rfl dX7_count_191 ?_
    refine n_iconst hx hb 0 dX7_count_194 (by decide) ?_
    refine n_iald hx hb hK hP 2 0 rfl rfl 0 (by decide) (by decide) dX7_count_195 ?_
    subst hQ
    exact e_ro hx hb hr hlocks (by first | rfl | exact hn) dX7_count_196
  · skip
    refine n_tab (a := 12) (off := 196) (tgt := 197) hx hb (by decide) dX7_count_1 (by decide) (by decide) rfl (by decide) ?_
    refine lv_aload_n hx hb dX7_count_197 rfl (lv_at hl 0 rfl) ?_
    refine va_get (D := G) (ci := 7) (v := .ref (q 0)) (C := RX7) (T := TX7) (N := 9) hx hb hts hinX7 hown hK hP 0 rfl rfl 0 (by decide) lk10 (fun _ h9 => h9) rfl dX7_count_198 ?_
    refine va_get (D := G) (ci := 3) (v := .ref (q 5)) (C := RX3) (T := TX3) (N := 16) hx hb hts hinX3 hown hK hP 1 rfl rfl 4 (by decide) lk161 (fun _ h9 => h9) rfl dX7_count_201 ?_
    refine n_iconst hx hb 1 dX7_count_204 (by decide) ?_
    refine n_iald hx hb hK hP 2 0 rfl rfl 1 (by decide) (by decide) dX7_count_205 ?_
    subst hQ
    exact e_ro hx hb hr hlocks (by first | rfl | exact hn) dX7_count_206
  · skip
    refine n_tab (a := 13) (off := 206) (tgt := 207) hx hb (by decide) dX7_count_1 (by decide) (by decide) rfl (by decide) ?_
    refine lv_aload_n hx hb dX7_count_207 rfl (lv_at hl 0 rfl) ?_
    refine va_get (D := G) (ci := 7) (v := .ref (h 0)) (C := RX7) (T := TX7) (N := 9) hx hb hts hinX7 hown hK hP 0 rfl rfl 2 (by decide) lk22 (fun _ h9 => h9) rfl dX7_count_208 ?_
    refine va_get (D := G) (ci := 1) (v := .int (Sh 0 2)) (C := RX1) (T := TX1) (N := 3) hx hb hts hinX1 hown hK hP 14 rfl rfl 2 (by decide) lk208 (fun _ h9 => h9) rfl dX7_count_211 ?_
    refine n_top (y := nI n) hn ?_
    subst hQ
    exact e_ro hx hb hr hlocks (by first | rfl | exact hn) dX7_count_214
set_option maxHeartbeats 4000000 in
set_option maxRecDepth 100000 in
theorem c_X7_count_t (l : Launch) (hst : l.stackTraces = false) (G : va_G) (T : Nat → ClassId) (sz : Nat) (w : Nat → Nat) (q : Nat → Nat) (qz : Nat → Nat) (h : Nat → Nat) (t : Nat → Nat) (gr : Nat → Nat) (u : Nat → Nat) (tr : Nat → Nat) (oc : Nat → Nat) (Sw : Nat → Nat → Int32) (x : Int32) (hbx : pBt x 14 = false) : RX l yX7_count wsX7_count 7 G T sz (oX7 w q qz h t gr u tr oc Sw) [.ref (w 0), .int x] (.inr "java/lang/IllegalArgumentException") (oX7 w q qz h t gr u tr oc Sw) := by
  refine vx_ofW (cc := cX7_count) (maxL := 2) (ret := (some .int)) (by decide) rfl ?_
  intro p e s m args below meth c s₁ B hml htab hv
  obtain ⟨ha, ⟨hsz, hP, hK, hD0, hE0⟩, hC⟩ := hv
  have hx := B.exec
  have hb := B.bytes
  have hr := B.returns
  have hlocks := B.notSynchronized
  have hts := atoms_spec (ws := wsX7_count) B.pre
  have hown : s.vm.findClass RX7 = some m.cls := findClass_of_methodNamed B.named
  have cx : CallFix p m c cX7_count 2 s args wsX7_count RX7 := ⟨hx, hb, hml, hown, hts⟩
  subst hsz
  have hD := hD0.self (sz := s.heap.size)
  generalize hAe : va_A (oX7 w q qz h t gr u tr oc Sw) s.heap.size = A at hD hE0 ⊢
  have hE : gE A s s.heap := hE0
  have hA : ∀ q : Nat, s.heap.size ≤ q → A q := fun q h => by rw [← hAe]; exact Or.inr h
  have hS : va_S A s.heap s.heap [] := va_S.rf
  refine w_entry ha (Nat.le_of_ble_eq_true rfl) (fun ls hl => ?_)
  refine w_q (fun Q0 hQ => ?_)
  have hl : lv_has ls 2 [(0, .ref (w 0)), (1, .int x)] := hl
  have hP : va_P G vwCl [(w 0, .inr (7, [.ref (q 0), .ref (qz 0), .ref (h 0), .ref (t 0), .ref (gr 0), .ref (u 0), .ref (tr 0), .ref (oc 0), .int (Sw 0 8)]))] s.heap := hP
  have hD : va_D A [(w 0, .inr (7, [.ref (q 0), .ref (qz 0), .ref (h 0), .ref (t 0), .ref (gr 0), .ref (u 0), .ref (tr 0), .ref (oc 0), .int (Sw 0 8)]))] := hD
  skip
  refine w_h (fun H locs hHe hLe => ?_)
  have hP : va_P G vwCl [(w 0, .inr (7, [.ref (q 0), .ref (qz 0), .ref (h 0), .ref (t 0), .ref (gr 0), .ref (u 0), .ref (tr 0), .ref (oc 0), .int (Sw 0 8)]))] H := by rw [hHe]; exact hP
  have hS : va_S A s.heap H locs := by rw [hHe, hLe]; exact hS
  refine lv_iload_n hx hb dX7_count_0 rfl (lv_at hl 1 rfl) ?_
  refine n_tabO (tgt := 215) hx hb dX7_count_1 0 14 (pBt_O hbx (by decide)) rfl rfl (by decide) ?_
  subst hQ
  have hP9 : va_P G vwCl (oX7 w q qz h t gr u tr oc Sw) H := hP
  have hD9 : va_D A (oX7 w q qz h t gr u tr oc Sw) := hD
  exact e_thr hx hb hst (own := RX7) (cls := "java/lang/IllegalArgumentException") "no such number" ["java/lang/RuntimeException", "java/lang/Exception"] (ik := 80) (is := 206) (ic := 84) hown (by decide +kernel) (by decide +kernel) (hts (.classLink RX7 80 "java/lang/IllegalArgumentException") (by decide +kernel)) (hts (.initialized "java/lang/IllegalArgumentException") (by decide +kernel)) (hE.2.1 (RX7, 206, "no such number") (by decide +kernel)) (xt_Z (is := 0) (ik := 0) (text := "") hC (by decide +kernel) (by decide +kernel) (fun w9 hw9 => hts w9 (List.mem_cons_of_mem _ (List.mem_append_right _ hw9)))) (by decide +kernel) hE hS (hl.1.trans hml.symm) dX7_count_215 dX7_count_218 dX7_count_219 dX7_count_221 dX7_count_224 htab ⟨by decide, Nat.le_of_ble_eq_true rfl, Nat.le_of_ble_eq_true rfl, Nat.le_of_ble_eq_true rfl⟩ hlocks ⟨rfl, rfl⟩ rfl hP9 hD9
