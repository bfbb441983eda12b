/-! WhistleTunes: share, the sums of text, message, room (printed by wip/whole/s47.py) -/
set_option maxHeartbeats 4000000 in
set_option maxRecDepth 100000 in
theorem c_X7_understoodShare (l : Launch) (G : va_G) (T : Nat → ClassId) (sz : Nat) (w : Nat → Nat) (q : Nat → Nat) (qz : Nat → Nat) (h : Nat → Nat) (t : Nat → Nat) (gr : Nat → Nat) (u : Nat → Nat) (tr : Nat → Nat) (oc : Nat → Nat) (Sw : Nat → Nat → Int32) (S : Nat → Nat → Int32) : RWd l yX7_understoodShare wsX7_understoodShare 1 0 0 G T sz (oX7 w q qz h t gr u tr oc Sw ++ oX3 T q S) [.ref (w 0)] (cSh S) (oX7 w q qz h t gr u tr oc Sw ++ oX3 T q S) := by
  refine Met.ofW (cc := cX7_understoodShare) (maxL := 3) (ret := (some .double)) (by decide) rfl ?_
  intro p e s m args below meth c s₁ B hml hv
  obtain ⟨ha, hsz, hP, hK, hD0, hE0⟩ := hv
  have hx := B.exec
  have hb := B.bytes
  have hr := B.returns
  have hlocks := B.notSynchronized
  have hts := atoms_spec (ws := wsX7_understoodShare) B.pre
  have hown : s.vm.findClass RX7 = some m.cls := findClass_of_methodNamed B.named
  have cx : CallFix p m c cX7_understoodShare 3 s args wsX7_understoodShare RX7 := ⟨hx, hb, hml, hown, hts⟩
  subst hsz
  have hD := hD0.self (sz := s.heap.size)
  generalize hAe : va_A (oX7 w q qz h t gr u tr oc Sw ++ oX3 T q S) s.heap.size = A at hD hE0 ⊢
  have hE : gE A s s.heap := hE0
  have hA : ∀ q : Nat, s.heap.size ≤ q → A q := fun q h => by rw [← hAe]; exact Or.inr h
  have hS : va_S A s.heap s.heap [] := va_S.rf
  refine w_entry ha (Nat.le_of_ble_eq_true rfl) (fun ls hl => ?_)
  refine w_q (fun Q0 hQ => ?_)
  have lk10 := hts (.fieldLink RX7 10 "WhistleTunes" "school" "LWhistleTunes$School;") (by decide +kernel)
  have hinX7 : ∀ w ∈ wsX70, w ∈ wsX7_understoodShare := by decide +kernel
  have lk241 := hts (.fieldLink RX7 241 "WhistleTunes$School" "roomUnderstood" "[I") (by decide +kernel)
  have hinX3 : ∀ w ∈ wsX30, w ∈ wsX7_understoodShare := by decide +kernel
  have lk244 := hts (.fieldLink RX7 244 "WhistleTunes$School" "roomNoise" "[I") (by decide +kernel)
  have hl : lv_has ls 3 [(0, .ref (w 0))] := hl
  have hP : va_P G vwCl [(w 0, .inr (7, [.ref (q 0), .ref (qz 0), .ref (h 0), .ref (t 0), .ref (gr 0), .ref (u 0), .ref (tr 0), .ref (oc 0), .int (Sw 0 8)])), (q 0, .inr (3, [.int (S 0 0), .int (S 0 1), .int (S 0 2), .int (S 0 3), .ref (q 5), .ref (q 6), .ref (q 7), .ref (q 8), .ref (q 9), .ref (q 10), .ref (q 11), .ref (q 12), .ref (q 13), .ref (q 14), .ref (q 15), .ref (q 16)])), (q 5, .inl (T 0, 2, .inl (S 5))), (q 6, .inl (T 0, 20, .inl (S 6))), (q 7, .inl (T 0, 160, .inl (S 7))), (q 8, .inl (T 0, 20, .inl (S 8))), (q 9, .inl (T 0, 20, .inl (S 9))), (q 10, .inl (T 0, 20, .inl (S 10))), (q 11, .inl (T 0, 6, .inl (S 11))), (q 12, .inl (T 0, 6, .inl (S 12))), (q 13, .inl (T 0, 6, .inl (S 13))), (q 14, .inl (T 0, 6, .inl (S 14))), (q 15, .inl (T 0, 6, .inl (S 15))), (q 16, .inl (T 0, 2, .inl (S 16)))] s.heap := hP
  have hD : va_D A [(w 0, .inr (7, [.ref (q 0), .ref (qz 0), .ref (h 0), .ref (t 0), .ref (gr 0), .ref (u 0), .ref (tr 0), .ref (oc 0), .int (Sw 0 8)])), (q 0, .inr (3, [.int (S 0 0), .int (S 0 1), .int (S 0 2), .int (S 0 3), .ref (q 5), .ref (q 6), .ref (q 7), .ref (q 8), .ref (q 9), .ref (q 10), .ref (q 11), .ref (q 12), .ref (q 13), .ref (q 14), .ref (q 15), .ref (q 16)])), (q 5, .inl (T 0, 2, .inl (S 5))), (q 6, .inl (T 0, 20, .inl (S 6))), (q 7, .inl (T 0, 160, .inl (S 7))), (q 8, .inl (T 0, 20, .inl (S 8))), (q 9, .inl (T 0, 20, .inl (S 9))), (q 10, .inl (T 0, 20, .inl (S 10))), (q 11, .inl (T 0, 6, .inl (S 11))), (q 12, .inl (T 0, 6, .inl (S 12))), (q 13, .inl (T 0, 6, .inl (S 13))), (q 14, .inl (T 0, 6, .inl (S 14))), (q 15, .inl (T 0, 6, .inl (S 15))), (q 16, .inl (T 0, 2, .inl (S 16)))] := hD
  skip
  refine w_h (fun H locs hHe hLe => ?_)
  have hP : va_P G vwCl [(w 0, .inr (7, [.ref (q 0), .ref (qz 0), .ref (h 0), .ref (t 0), .ref (gr 0), .ref (u 0), .ref (tr 0), .ref (oc 0), .int (Sw 0 8)])), (q 0, .inr (3, [.int (S 0 0), .int (S 0 1), .int (S 0 2), .int (S 0 3), .ref (q 5), .ref (q 6), .ref (q 7), .ref (q 8), .ref (q 9), .ref (q 10), .ref (q 11), .ref (q 12), .ref (q 13), .ref (q 14), .ref (q 15), .ref (q 16)])), (q 5, .inl (T 0, 2, .inl (S 5))), (q 6, .inl (T 0, 20, .inl (S 6))), (q 7, .inl (T 0, 160, .inl (S 7))), (q 8, .inl (T 0, 20, .inl (S 8))), (q 9, .inl (T 0, 20, .inl (S 9))), (q 10, .inl (T 0, 20, .inl (S 10))), (q 11, .inl (T 0, 6, .inl (S 11))), (q 12, .inl (T 0, 6, .inl (S 12))), (q 13, .inl (T 0, 6, .inl (S 13))), (q 14, .inl (T 0, 6, .inl (S 14))), (q 15, .inl (T 0, 6, .inl (S 15))), (q 16, .inl (T 0, 2, .inl (S 16)))] H := by rw [hHe]; exact hP
  have hS : va_S A s.heap H locs := by rw [hHe, hLe]; exact hS
  refine lv_aload_n hx hb dX7_understoodShare_0 rfl (lv_at hl 0 rfl) ?_
  refine va_get (D := G) (ci := 7) (v := .ref (q 0)) (C := RX7) (T := TX7) (N := 9) hx hb hts hinX7 hown hK hP 0 rfl rfl 0 (by decide) lk10 (fun _ h9 => h9) rfl dX7_understoodShare_1 ?_
  refine va_get (D := G) (ci := 3) (v := .ref (q 13)) (C := RX3) (T := TX3) (N := 16) hx hb hts hinX3 hown hK hP 1 rfl rfl 12 (by decide) lk241 (fun _ h9 => h9) rfl dX7_understoodShare_4 ?_
  refine k_roS (As := [.ref (q 13)]) (rest := []) (wc := [(q 13, .inl (T 0, 6, .inl (S 13)))]) (d := 0) (v := pSm (S 13) 6) cx (c_X7_sumOf l G T A (q 13) (S 13) 6 (by decide)) (va_cwS 1 hts gX7_understoodShare_X7_sumOf rfl rfl rfl (by decide +kernel) ⟨Nat.le_of_ble_eq_true rfl, Nat.le_of_ble_eq_true rfl⟩) (hP.sub (ws' := [(q 13, .inl (T 0, 6, .inl (S 13)))]) [10] rfl) hK (hE.kept hS.2.1) rfl hl.1 rfl (Nat.le_of_ble_eq_true rfl) dX7_understoodShare_7 ⟨Nat.le_of_ble_eq_true rfl, Nat.le_of_ble_eq_true rfl⟩ ?_
  refine lv_istore_n (lv' := [(1, .int (pSm (S 13) 6)), (0, .ref (w 0))]) hx hb dX7_understoodShare_10 rfl hl (by decide) rfl (fun ls hl => ?_)
  refine lv_iload_n hx hb dX7_understoodShare_11 rfl (lv_at hl 0 rfl) ?_
  refine lv_aload_n hx hb dX7_understoodShare_12 rfl (lv_at hl 1 rfl) ?_
  refine va_get (D := G) (ci := 7) (v := .ref (q 0)) (C := RX7) (T := TX7) (N := 9) hx hb hts hinX7 hown hK hP 0 rfl rfl 0 (by decide) lk10 (fun _ h9 => h9) rfl dX7_understoodShare_13 ?_
  refine va_get (D := G) (ci := 3) (v := .ref (q 14)) (C := RX3) (T := TX3) (N := 16) hx hb hts hinX3 hown hK hP 1 rfl rfl 13 (by decide) lk244 (fun _ h9 => h9) rfl dX7_understoodShare_16 ?_
  refine k_roS (As := [.ref (q 14)]) (rest := [.int (pSm (S 13) 6)]) (wc := [(q 14, .inl (T 0, 6, .inl (S 14)))]) (d := 0) (v := pSm (S 14) 6) cx (c_X7_sumOf l G T A (q 14) (S 14) 6 (by decide)) (va_cwS 1 hts gX7_understoodShare_X7_sumOf rfl rfl rfl (by decide +kernel) ⟨Nat.le_of_ble_eq_true rfl, Nat.le_of_ble_eq_true rfl⟩) (hP.sub (ws' := [(q 14, .inl (T 0, 6, .inl (S 14)))]) [11] rfl) hK (hE.kept hS.2.1) rfl hl.1 rfl (Nat.le_of_ble_eq_true rfl) dX7_understoodShare_19 ⟨Nat.le_of_ble_eq_true rfl, Nat.le_of_ble_eq_true rfl⟩ ?_
  refine lv_iadd hx hb dX7_understoodShare_22 ?_
  refine lv_istore_n (lv' := [(2, .int ((pSm (S 13) 6) + (pSm (S 14) 6))), (1, .int (pSm (S 13) 6)), (0, .ref (w 0))]) hx hb dX7_understoodShare_23 rfl hl (by decide) rfl (fun ls hl => ?_)
  refine lv_iload_n hx hb dX7_understoodShare_24 rfl (lv_at hl 0 rfl) ?_
  refine lv_if_gt (tgt := 32) hx hb dX7_understoodShare_25 (by decide) (fun c_1 => ?_) (fun c_2 => ?_)
  · skip
    refine lv_iload_n hx hb dX7_understoodShare_32 rfl (lv_at hl 1 rfl) ?_
    refine lv_i2d hx hb dX7_understoodShare_33 ?_
    refine lv_iload_n hx hb dX7_understoodShare_34 rfl (lv_at hl 0 rfl) ?_
    refine lv_i2d hx hb dX7_understoodShare_35 ?_
    refine lv_ddiv (x := FP.i2d (pSm (S 13) 6)) (y := FP.i2d ((pSm (S 13) 6) + (pSm (S 14) 6))) hx hb dX7_understoodShare_36 (ddiv_n64 _ _ (fun h9 => absurd c_1 (by rw [h9]; decide))) ?_
    subst hQ
    have hP9 : va_P G vwCl (oX7 w q qz h t gr u tr oc Sw ++ oX3 T q S) H := hP
    have hD9 : va_D A (oX7 w q qz h t gr u tr oc Sw ++ oX3 T q S) := hD
    exact e_rwd hx hb hr hlocks hS (by unfold cSh cShare; first | exact (if_pos c_1).symm | exact (if_neg c_1).symm) hP9 hD9 dX7_understoodShare_37
  · skip
    refine lv_dconst1 hx hb dX7_understoodShare_28 ?_
    refine lv_goto (tgt := 37) hx hb dX7_understoodShare_29 (by decide) ?_
    subst hQ
    have hP9 : va_P G vwCl (oX7 w q qz h t gr u tr oc Sw ++ oX3 T q S) H := hP
    have hD9 : va_D A (oX7 w q qz h t gr u tr oc Sw ++ oX3 T q S) := hD
    exact e_rwd hx hb hr hlocks hS (by unfold cSh cShare; first | exact (if_pos c_2).symm | exact (if_neg c_2).symm) hP9 hD9 dX7_understoodShare_37
set_option maxHeartbeats 4000000 in
set_option maxRecDepth 100000 in
theorem c_X7_withText (l : Launch) (G : va_G) (T : Nat → ClassId) (sz : Nat) (w : Nat → Nat) (q : Nat → Nat) (qz : Nat → Nat) (h : Nat → Nat) (t : Nat → Nat) (gr : Nat → Nat) (u : Nat → Nat) (tr : Nat → Nat) (oc : Nat → Nat) (Sw : Nat → Nat → Int32) (X : Nat → Nat → Int32) (n : Nat) (cd : Nat → Nat) (gg : Int64) (hlen : X 0 1 = nI n) (hn60 : n ≤ 60) (hcd : ∀ i : Nat, i < n → X 1 i = nI (cd i)) (hc127 : ∀ i : Nat, i < n → cd i < 127) : RWl l yX7_withText wsX7_withText 1 0 0 G T sz (oX7 w q qz h t gr u tr oc Sw ++ oX5 T t X) [.ref (w 0), .long gg] (cTx cd n gg n) (oX7 w q qz h t gr u tr oc Sw ++ oX5 T t X) := by
  refine Met.ofW (cc := cX7_withText) (maxL := 6) (ret := (some .long)) (by decide) rfl ?_
  intro p e s m args below meth c s₁ B hml hv
  obtain ⟨ha, hsz, hP, hK, hD0, hE0⟩ := hv
  have hx := B.exec
  have hb := B.bytes
  have hr := B.returns
  have hlocks := B.notSynchronized
  have hts := atoms_spec (ws := wsX7_withText) B.pre
  have hown : s.vm.findClass RX7 = some m.cls := findClass_of_methodNamed B.named
  have cx : CallFix p m c cX7_withText 6 s args wsX7_withText RX7 := ⟨hx, hb, hml, hown, hts⟩
  subst hsz
  have hD := hD0.self (sz := s.heap.size)
  generalize hAe : va_A (oX7 w q qz h t gr u tr oc Sw ++ oX5 T t X) s.heap.size = A at hD hE0 ⊢
  have hE : gE A s s.heap := hE0
  have hA : ∀ q : Nat, s.heap.size ≤ q → A q := fun q h => by rw [← hAe]; exact Or.inr h
  have hS : va_S A s.heap s.heap [] := va_S.rf
  refine w_entry ha (Nat.le_of_ble_eq_true rfl) (fun ls hl => ?_)
  refine w_q (fun Q0 hQ => ?_)
  have lk29 := hts (.fieldLink RX7 29 "WhistleTunes" "text" "LWhistleTunes$Text;") (by decide +kernel)
  have hinX7 : ∀ w ∈ wsX70, w ∈ wsX7_withText := by decide +kernel
  have lk177 := hts (.fieldLink RX7 177 "WhistleTunes$Text" "length" "I") (by decide +kernel)
  have hinX5 : ∀ w ∈ wsX50, w ∈ wsX7_withText := by decide +kernel
  have hl : lv_has ls 6 [(0, .ref (w 0)), (1, .long gg)] := hl
  have hP : va_P G vwCl [(w 0, .inr (7, [.ref (q 0), .ref (qz 0), .ref (h 0), .ref (t 0), .ref (gr 0), .ref (u 0), .ref (tr 0), .ref (oc 0), .int (Sw 0 8)])), (t 0, .inr (5, [.ref (t 1), .int (X 0 1)])), (t 1, .inl (T 1, 60, .inl (X 1)))] s.heap := hP
  have hD : va_D A [(w 0, .inr (7, [.ref (q 0), .ref (qz 0), .ref (h 0), .ref (t 0), .ref (gr 0), .ref (u 0), .ref (tr 0), .ref (oc 0), .int (Sw 0 8)])), (t 0, .inr (5, [.ref (t 1), .int (X 0 1)])), (t 1, .inl (T 1, 60, .inl (X 1)))] := hD
  skip
  refine w_h (fun H locs hHe hLe => ?_)
  have hP : va_P G vwCl [(w 0, .inr (7, [.ref (q 0), .ref (qz 0), .ref (h 0), .ref (t 0), .ref (gr 0), .ref (u 0), .ref (tr 0), .ref (oc 0), .int (Sw 0 8)])), (t 0, .inr (5, [.ref (t 1), .int (X 0 1)])), (t 1, .inl (T 1, 60, .inl (X 1)))] H := by rw [hHe]; exact hP
  have hS : va_S A s.heap H locs := by rw [hHe, hLe]; exact hS
  refine lv_ldc2 (v := 31) hx hb hown (hts (.constantLong RX7 307 (31)) (by decide +kernel)) dX7_withText_0 ?_
  refine lv_lload_n hx hb dX7_withText_3 rfl (lv_at hl 1 rfl) ?_
  refine lv_lmul hx hb dX7_withText_4 ?_
  refine lv_aload_n hx hb dX7_withText_5 rfl (lv_at hl 0 rfl) ?_
  refine va_get (D := G) (ci := 7) (v := .ref (t 0)) (C := RX7) (T := TX7) (N := 9) hx hb hts hinX7 hown hK hP 0 rfl rfl 3 (by decide) lk29 (fun _ h9 => h9) rfl dX7_withText_6 ?_
  refine va_get (D := G) (ci := 5) (v := .int (X 0 1)) (C := RX5) (T := TX5) (N := 2) hx hb hts hinX5 hown hK hP 1 rfl rfl 1 (by decide) lk177 (fun _ h9 => h9) rfl dX7_withText_9 ?_
  refine n_top (y := nI n) hlen ?_
  refine lv_i2l (v := (nI n).toInt64) hx hb dX7_withText_12 rfl ?_
  refine lv_ladd hx hb dX7_withText_13 ?_
  refine lv_lstore_n (lv' := [(3, .long (((31 : Int64) * gg) + ((nI n).toInt64))), (0, .ref (w 0)), (1, .long gg)]) hx hb dX7_withText_14 rfl hl (by decide) rfl (fun ls hl => ?_)
  refine n_iconst hx hb 0 dX7_withText_15 (by decide) ?_
  refine lv_istore (lv' := [(5, .int (nI 0)), (3, .long (((31 : Int64) * gg) + ((nI n).toInt64))), (0, .ref (w 0)), (1, .long gg)]) hx hb dX7_withText_16 hl (by decide) rfl (fun ls hl => ?_)
  have L18 : ∀ (n9 k : Nat) (hk1 : k ≤ n) (hk2 : n - k < n9) (x5 : Int32) (x3 : Int64) (hx5 : x5 = nI k) (hx3 : x3 = cTx cd n gg k) (H : Heap) (locs : List Loc) (hP : va_P G vwCl [(w 0, .inr (7, [.ref (q 0), .ref (qz 0), .ref (h 0), .ref (t 0), .ref (gr 0), .ref (u 0), .ref (tr 0), .ref (oc 0), .int (Sw 0 8)])), (t 0, .inr (5, [.ref (t 1), .int (X 0 1)])), (t 1, .inl (T 1, 60, .inl (X 1)))] H) (hD : va_D A [(w 0, .inr (7, [.ref (q 0), .ref (qz 0), .ref (h 0), .ref (t 0), .ref (gr 0), .ref (u 0), .ref (tr 0), .ref (oc 0), .int (Sw 0 8)])), (t 0, .inr (5, [.ref (t 1), .int (X 0 1)])), (t 1, .inl (T 1, 60, .inl (X 1)))]) (hS : va_S A s.heap H locs) (ls : Array Slot) (hl : lv_has ls 6 [(5, .int x5), (3, .long x3), (0, .ref (w 0)), (1, .long gg)]), W p l e (headSpec wsX7_withText (rmD 1 0 0)).room s m args below meth c H locs 0 0 Q0 (F0 m 18 ls []) := by
    intro n9
    induction n9 with
    | zero => intros; omega
    | succ n9 ih18 =>
      intro k hk1 hk2 x5 x3 hx5 hx3 H locs hP hD hS ls hl
      subst hx5 hx3
      refine lv_iload hx hb dX7_withText_18 (lv_at hl 0 rfl) ?_
      refine lv_aload_n hx hb dX7_withText_20 rfl (lv_at hl 2 rfl) ?_
      refine va_get (D := G) (ci := 7) (v := .ref (t 0)) (C := RX7) (T := TX7) (N := 9) hx hb hts hinX7 hown hK hP 0 rfl rfl 3 (by decide) lk29 (fun _ h9 => h9) rfl dX7_withText_21 ?_
      refine va_get (D := G) (ci := 5) (v := .int (X 0 1)) (C := RX5) (T := TX5) (N := 2) hx hb hts hinX5 hown hK hP 1 rfl rfl 1 (by decide) lk177 (fun _ h9 => h9) rfl dX7_withText_24 ?_
      refine n_top (y := nI n) hlen ?_
      refine n_icmp_ge (a := k) (b := n) (tgt := 53) hx hb (by omega) (by omega) dX7_withText_27 (by decide) (fun c_1 => ?_) (fun c_2 => ?_)
      · skip
        refine lv_lload_n hx hb dX7_withText_53 rfl (lv_at hl 1 rfl) ?_
        subst hQ
        have hP9 : va_P G vwCl (oX7 w q qz h t gr u tr oc Sw ++ oX5 T t X) H := hP
        have hD9 : va_D A (oX7 w q qz h t gr u tr oc Sw ++ oX5 T t X) := hD
        exact e_rwl hx hb hr hlocks hS (by have hkn : k = n := (by omega); rw [hkn]) hP9 hD9 dX7_withText_54
      · skip
        refine lv_ldc2 (v := 31) hx hb hown (hts (.constantLong RX7 307 (31)) (by decide +kernel)) dX7_withText_30 ?_
        refine lv_lload_n hx hb dX7_withText_33 rfl (lv_at hl 1 rfl) ?_
        refine lv_lmul hx hb dX7_withText_34 ?_
        refine lv_aload_n hx hb dX7_withText_35 rfl (lv_at hl 2 rfl) ?_
        refine va_get (D := G) (ci := 7) (v := .ref (t 0)) (C := RX7) (T := TX7) (N := 9) hx hb hts hinX7 hown hK hP 0 rfl rfl 3 (by decide) lk29 (fun _ h9 => h9) rfl dX7_withText_36 ?_
        refine lv_iload hx hb dX7_withText_39 (lv_at hl 0 rfl) ?_
        refine k_roV (As := [.int (nI k)]) (rest := [.long ((31 : Int64) * (cTx cd n gg k))]) (wc := oX5 T t X) (d := 0) (v := nI (pAt cd n k)) cx (c_X5_at l G T A t X k n cd (by first | assumption | rfl | omega) (by omega) (by first | assumption | rfl | omega) (by omega) (by omega)) (cwV 1 hts gX7_withText_X5_at rfl rfl rfl (by decide +kernel) ⟨Nat.le_of_ble_eq_true rfl, Nat.le_of_ble_eq_true rfl⟩) (hP.sub (ws' := oX5 T t X) [1, 2] rfl) hK (hE.kept hS.2.1) (va_recv hK hP (ci := 5) (q0 := 1) rfl rfl) rfl hl.1 rfl (Nat.le_of_ble_eq_true rfl) dX7_withText_41 ⟨Nat.le_of_ble_eq_true rfl, Nat.le_of_ble_eq_true rfl⟩ ?_
        refine lv_i2l (v := (nI (pAt cd n k)).toInt64) hx hb dX7_withText_44 rfl ?_
        refine lv_ladd hx hb dX7_withText_45 ?_
        refine lv_lstore_n (lv' := [(3, .long (((31 : Int64) * (cTx cd n gg k)) + ((nI (pAt cd n k)).toInt64))), (5, .int (nI k)), (0, .ref (w 0)), (1, .long gg)]) hx hb dX7_withText_46 rfl hl (by decide) rfl (fun ls hl => ?_)
        refine lv_iinc (v := nI (k + 1)) (lv' := [(5, .int (nI (k + 1))), (3, .long (((31 : Int64) * (cTx cd n gg k)) + ((nI (pAt cd n k)).toInt64))), (0, .ref (w 0)), (1, .long gg)]) hx hb dX7_withText_47 hl (k := 1) rfl (n_inc k 1 rfl) (by decide) rfl (fun ls hl => ?_)
        refine lv_goto (tgt := 18) hx hb dX7_withText_50 (by decide) ?_
        have e_3 : (((31 : Int64) * (cTx cd n gg k)) + ((nI (pAt cd n k)).toInt64)) = cTx cd n gg (k + 1) := rfl
        exact ih18 (k + 1) (by omega) (by omega) _ _ rfl e_3 _ _ hP hD hS _ (lv_sub hl [0, 1, 2, 3] rfl)
  exact L18 (n + 1) 0 (by omega) (by omega) _ _ rfl rfl _ _ hP hD hS _ (lv_sub hl [0, 1, 2, 3] rfl)
set_option maxHeartbeats 4000000 in
set_option maxRecDepth 100000 in
theorem c_X7_withMessage (l : Launch) (G : va_G) (T : Nat → ClassId) (sz : Nat) (w : Nat → Nat) (q : Nat → Nat) (qz : Nat → Nat) (h : Nat → Nat) (t : Nat → Nat) (gr : Nat → Nat) (u : Nat → Nat) (tr : Nat → Nat) (oc : Nat → Nat) (Sw : Nat → Nat → Int32) (O : Nat → Nat → Int32) (S : Nat → Nat → Int32) (gg : Int64) (mm : Nat) (hm20 : mm < 20) : RWl l yX7_withMessage wsX7_withMessage 5 0 0 G T sz (oX7 w q qz h t gr u tr oc Sw ++ oX2 T oc O ++ oX3 T q S) [.ref (w 0), .long gg, .int (nI mm)] (cMx S mm gg) (oX7 w q qz h t gr u tr oc Sw ++ oX2 T oc (pBrO O S mm 6) ++ oX3 T q S) := by
  refine Met.ofW (cc := cX7_withMessage) (maxL := 7) (ret := (some .long)) (by decide) rfl ?_
  intro p e s m args below meth c s₁ B hml hv
  obtain ⟨ha, hsz, hP, hK, hD0, hE0⟩ := hv
  have hx := B.exec
  have hb := B.bytes
  have hr := B.returns
  have hlocks := B.notSynchronized
  have hts := atoms_spec (ws := wsX7_withMessage) B.pre
  have hown : s.vm.findClass RX7 = some m.cls := findClass_of_methodNamed B.named
  have cx : CallFix p m c cX7_withMessage 7 s args wsX7_withMessage RX7 := ⟨hx, hb, hml, hown, hts⟩
  subst hsz
  have hD := hD0.self (sz := s.heap.size)
  generalize hAe : va_A (oX7 w q qz h t gr u tr oc Sw ++ oX2 T oc O ++ oX3 T q S) s.heap.size = A at hD hE0 ⊢
  have hE : gE A s s.heap := hE0
  have hA : ∀ q : Nat, s.heap.size ≤ q → A q := fun q h => by rw [← hAe]; exact Or.inr h
  have hS : va_S A s.heap s.heap [] := va_S.rf
  refine w_entry ha (Nat.le_of_ble_eq_true rfl) (fun ls hl => ?_)
  refine w_q (fun Q0 hQ => ?_)
  have hl : lv_has ls 7 [(0, .ref (w 0)), (1, .long gg), (3, .int (nI mm))] := hl
  have hP : va_P G vwCl [(w 0, .inr (7, [.ref (q 0), .ref (qz 0), .ref (h 0), .ref (t 0), .ref (gr 0), .ref (u 0), .ref (tr 0), .ref (oc 0), .int (Sw 0 8)])), (oc 0, .inr (2, [.int (O 0 0), .int (O 0 1), .int (O 0 2), .int (O 0 3), .int (O 0 4)])), (q 0, .inr (3, [.int (S 0 0), .int (S 0 1), .int (S 0 2), .int (S 0 3), .ref (q 5), .ref (q 6), .ref (q 7), .ref (q 8), .ref (q 9), .ref (q 10), .ref (q 11), .ref (q 12), .ref (q 13), .ref (q 14), .ref (q 15), .ref (q 16)])), (q 5, .inl (T 0, 2, .inl (S 5))), (q 6, .inl (T 0, 20, .inl (S 6))), (q 7, .inl (T 0, 160, .inl (S 7))), (q 8, .inl (T 0, 20, .inl (S 8))), (q 9, .inl (T 0, 20, .inl (S 9))), (q 10, .inl (T 0, 20, .inl (S 10))), (q 11, .inl (T 0, 6, .inl (S 11))), (q 12, .inl (T 0, 6, .inl (S 12))), (q 13, .inl (T 0, 6, .inl (S 13))), (q 14, .inl (T 0, 6, .inl (S 14))), (q 15, .inl (T 0, 6, .inl (S 15))), (q 16, .inl (T 0, 2, .inl (S 16)))] s.heap := hP
  have hD : va_D A [(w 0, .inr (7, [.ref (q 0), .ref (qz 0), .ref (h 0), .ref (t 0), .ref (gr 0), .ref (u 0), .ref (tr 0), .ref (oc 0), .int (Sw 0 8)])), (oc 0, .inr (2, [.int (O 0 0), .int (O 0 1), .int (O 0 2), .int (O 0 3), .int (O 0 4)])), (q 0, .inr (3, [.int (S 0 0), .int (S 0 1), .int (S 0 2), .int (S 0 3), .ref (q 5), .ref (q 6), .ref (q 7), .ref (q 8), .ref (q 9), .ref (q 10), .ref (q 11), .ref (q 12), .ref (q 13), .ref (q 14), .ref (q 15), .ref (q 16)])), (q 5, .inl (T 0, 2, .inl (S 5))), (q 6, .inl (T 0, 20, .inl (S 6))), (q 7, .inl (T 0, 160, .inl (S 7))), (q 8, .inl (T 0, 20, .inl (S 8))), (q 9, .inl (T 0, 20, .inl (S 9))), (q 10, .inl (T 0, 20, .inl (S 10))), (q 11, .inl (T 0, 6, .inl (S 11))), (q 12, .inl (T 0, 6, .inl (S 12))), (q 13, .inl (T 0, 6, .inl (S 13))), (q 14, .inl (T 0, 6, .inl (S 14))), (q 15, .inl (T 0, 6, .inl (S 15))), (q 16, .inl (T 0, 2, .inl (S 16)))] := hD
  skip
  refine w_h (fun H locs hHe hLe => ?_)
  have hP : va_P G vwCl [(w 0, .inr (7, [.ref (q 0), .ref (qz 0), .ref (h 0), .ref (t 0), .ref (gr 0), .ref (u 0), .ref (tr 0), .ref (oc 0), .int (Sw 0 8)])), (oc 0, .inr (2, [.int (O 0 0), .int (O 0 1), .int (O 0 2), .int (O 0 3), .int (O 0 4)])), (q 0, .inr (3, [.int (S 0 0), .int (S 0 1), .int (S 0 2), .int (S 0 3), .ref (q 5), .ref (q 6), .ref (q 7), .ref (q 8), .ref (q 9), .ref (q 10), .ref (q 11), .ref (q 12), .ref (q 13), .ref (q 14), .ref (q 15), .ref (q 16)])), (q 5, .inl (T 0, 2, .inl (S 5))), (q 6, .inl (T 0, 20, .inl (S 6))), (q 7, .inl (T 0, 160, .inl (S 7))), (q 8, .inl (T 0, 20, .inl (S 8))), (q 9, .inl (T 0, 20, .inl (S 9))), (q 10, .inl (T 0, 20, .inl (S 10))), (q 11, .inl (T 0, 6, .inl (S 11))), (q 12, .inl (T 0, 6, .inl (S 12))), (q 13, .inl (T 0, 6, .inl (S 13))), (q 14, .inl (T 0, 6, .inl (S 14))), (q 15, .inl (T 0, 6, .inl (S 15))), (q 16, .inl (T 0, 2, .inl (S 16)))] H := by rw [hHe]; exact hP
  have hS : va_S A s.heap H locs := by rw [hHe, hLe]; exact hS
  refine lv_lload_n hx hb dX7_withMessage_0 rfl (lv_at hl 1 rfl) ?_
  refine lv_lstore (lv' := [(4, .long gg), (0, .ref (w 0)), (1, .long gg), (3, .int (nI mm))]) hx hb dX7_withMessage_1 hl (by decide) rfl (fun ls hl => ?_)
  refine n_iconst hx hb 0 dX7_withMessage_3 (by decide) ?_
  refine lv_istore (lv' := [(6, .int (nI 0)), (4, .long gg), (0, .ref (w 0)), (1, .long gg), (3, .int (nI mm))]) hx hb dX7_withMessage_4 hl (by decide) rfl (fun ls hl => ?_)
  have L6 : ∀ (n9 k : Nat) (hk1 : k ≤ 4) (hk2 : 4 - k < n9) (x6 : Int32) (x4 : Int64) (hx6 : x6 = nI k) (hx4 : x4 = cM1 S mm gg k) (H : Heap) (locs : List Loc) (hP : va_P G vwCl [(w 0, .inr (7, [.ref (q 0), .ref (qz 0), .ref (h 0), .ref (t 0), .ref (gr 0), .ref (u 0), .ref (tr 0), .ref (oc 0), .int (Sw 0 8)])), (oc 0, .inr (2, [.int (O 0 0), .int (O 0 1), .int (O 0 2), .int (O 0 3), .int (O 0 4)])), (q 0, .inr (3, [.int (S 0 0), .int (S 0 1), .int (S 0 2), .int (S 0 3), .ref (q 5), .ref (q 6), .ref (q 7), .ref (q 8), .ref (q 9), .ref (q 10), .ref (q 11), .ref (q 12), .ref (q 13), .ref (q 14), .ref (q 15), .ref (q 16)])), (q 5, .inl (T 0, 2, .inl (S 5))), (q 6, .inl (T 0, 20, .inl (S 6))), (q 7, .inl (T 0, 160, .inl (S 7))), (q 8, .inl (T 0, 20, .inl (S 8))), (q 9, .inl (T 0, 20, .inl (S 9))), (q 10, .inl (T 0, 20, .inl (S 10))), (q 11, .inl (T 0, 6, .inl (S 11))), (q 12, .inl (T 0, 6, .inl (S 12))), (q 13, .inl (T 0, 6, .inl (S 13))), (q 14, .inl (T 0, 6, .inl (S 14))), (q 15, .inl (T 0, 6, .inl (S 15))), (q 16, .inl (T 0, 2, .inl (S 16)))] H) (hD : va_D A [(w 0, .inr (7, [.ref (q 0), .ref (qz 0), .ref (h 0), .ref (t 0), .ref (gr 0), .ref (u 0), .ref (tr 0), .ref (oc 0), .int (Sw 0 8)])), (oc 0, .inr (2, [.int (O 0 0), .int (O 0 1), .int (O 0 2), .int (O 0 3), .int (O 0 4)])), (q 0, .inr (3, [.int (S 0 0), .int (S 0 1), .int (S 0 2), .int (S 0 3), .ref (q 5), .ref (q 6), .ref (q 7), .ref (q 8), .ref (q 9), .ref (q 10), .ref (q 11), .ref (q 12), .ref (q 13), .ref (q 14), .ref (q 15), .ref (q 16)])), (q 5, .inl (T 0, 2, .inl (S 5))), (q 6, .inl (T 0, 20, .inl (S 6))), (q 7, .inl (T 0, 160, .inl (S 7))), (q 8, .inl (T 0, 20, .inl (S 8))), (q 9, .inl (T 0, 20, .inl (S 9))), (q 10, .inl (T 0, 20, .inl (S 10))), (q 11, .inl (T 0, 6, .inl (S 11))), (q 12, .inl (T 0, 6, .inl (S 12))), (q 13, .inl (T 0, 6, .inl (S 13))), (q 14, .inl (T 0, 6, .inl (S 14))), (q 15, .inl (T 0, 6, .inl (S 15))), (q 16, .inl (T 0, 2, .inl (S 16)))]) (hS : va_S A s.heap H locs) (ls : Array Slot) (hl : lv_has ls 7 [(6, .int x6), (4, .long x4), (0, .ref (w 0)), (1, .long gg), (3, .int (nI mm))]), W p l e (headSpec wsX7_withMessage (rmD 5 0 0)).room s m args below meth c H locs 0 0 Q0 (F0 m 6 ls []) := by
    intro n9
    induction n9 with
    | zero => intros; omega
    | succ n9 ih6 =>
      intro k hk1 hk2 x6 x4 hx6 hx4 H locs hP hD hS ls hl
      subst hx6 hx4
      refine lv_iload hx hb dX7_withMessage_6 (lv_at hl 0 rfl) ?_
      refine n_iconst hx hb 4 dX7_withMessage_8 (by decide) ?_
      refine n_icmp_ge (a := k) (b := 4) (tgt := 35) hx hb (by omega) (by decide) dX7_withMessage_9 (by decide) (fun c_1 => ?_) (fun c_2 => ?_)
      · skip
        obtain rfl : k = 4 := (by omega)
        refine n_iconst hx hb 0 dX7_withMessage_35 (by decide) ?_
        refine lv_istore (lv' := [(6, .int (nI 0)), (4, .long (cM1 S mm gg 4)), (0, .ref (w 0)), (1, .long gg), (3, .int (nI mm))]) hx hb dX7_withMessage_36 hl (by decide) rfl (fun ls hl => ?_)
        have L38_i_3 : ∀ (n9 k : Nat) (hk1 : k ≤ 8) (hk2 : 8 - k < n9) (x6 : Int32) (x4 : Int64) (hx6 : x6 = nI k) (hx4 : x4 = cM2 S mm gg k) (H : Heap) (locs : List Loc) (hP : va_P G vwCl [(w 0, .inr (7, [.ref (q 0), .ref (qz 0), .ref (h 0), .ref (t 0), .ref (gr 0), .ref (u 0), .ref (tr 0), .ref (oc 0), .int (Sw 0 8)])), (oc 0, .inr (2, [.int (O 0 0), .int (O 0 1), .int (O 0 2), .int (O 0 3), .int (O 0 4)])), (q 0, .inr (3, [.int (S 0 0), .int (S 0 1), .int (S 0 2), .int (S 0 3), .ref (q 5), .ref (q 6), .ref (q 7), .ref (q 8), .ref (q 9), .ref (q 10), .ref (q 11), .ref (q 12), .ref (q 13), .ref (q 14), .ref (q 15), .ref (q 16)])), (q 5, .inl (T 0, 2, .inl (S 5))), (q 6, .inl (T 0, 20, .inl (S 6))), (q 7, .inl (T 0, 160, .inl (S 7))), (q 8, .inl (T 0, 20, .inl (S 8))), (q 9, .inl (T 0, 20, .inl (S 9))), (q 10, .inl (T 0, 20, .inl (S 10))), (q 11, .inl (T 0, 6, .inl (S 11))), (q 12, .inl (T 0, 6, .inl (S 12))), (q 13, .inl (T 0, 6, .inl (S 13))), (q 14, .inl (T 0, 6, .inl (S 14))), (q 15, .inl (T 0, 6, .inl (S 15))), (q 16, .inl (T 0, 2, .inl (S 16)))] H) (hD : va_D A [(w 0, .inr (7, [.ref (q 0), .ref (qz 0), .ref (h 0), .ref (t 0), .ref (gr 0), .ref (u 0), .ref (tr 0), .ref (oc 0), .int (Sw 0 8)])), (oc 0, .inr (2, [.int (O 0 0), .int (O 0 1), .int (O 0 2), .int (O 0 3), .int (O 0 4)])), (q 0, .inr (3, [.int (S 0 0), .int (S 0 1), .int (S 0 2), .int (S 0 3), .ref (q 5), .ref (q 6), .ref (q 7), .ref (q 8), .ref (q 9), .ref (q 10), .ref (q 11), .ref (q 12), .ref (q 13), .ref (q 14), .ref (q 15), .ref (q 16)])), (q 5, .inl (T 0, 2, .inl (S 5))), (q 6, .inl (T 0, 20, .inl (S 6))), (q 7, .inl (T 0, 160, .inl (S 7))), (q 8, .inl (T 0, 20, .inl (S 8))), (q 9, .inl (T 0, 20, .inl (S 9))), (q 10, .inl (T 0, 20, .inl (S 10))), (q 11, .inl (T 0, 6, .inl (S 11))), (q 12, .inl (T 0, 6, .inl (S 12))), (q 13, .inl (T 0, 6, .inl (S 13))), (q 14, .inl (T 0, 6, .inl (S 14))), (q 15, .inl (T 0, 6, .inl (S 15))), (q 16, .inl (T 0, 2, .inl (S 16)))]) (hS : va_S A s.heap H locs) (ls : Array Slot) (hl : lv_has ls 7 [(6, .int x6), (4, .long x4), (0, .ref (w 0)), (1, .long gg), (3, .int (nI mm))]), W p l e (headSpec wsX7_withMessage (rmD 5 0 0)).room s m args below meth c H locs 0 0 Q0 (F0 m 38 ls []) := by
          intro n9
          induction n9 with
          | zero => intros; omega
          | succ n9 ih38 =>
            intro k hk1 hk2 x6 x4 hx6 hx4 H locs hP hD hS ls hl
            subst hx6 hx4
            refine lv_iload hx hb dX7_withMessage_38 (lv_at hl 0 rfl) ?_
            refine lv_bipush (v := nI 8) hx hb dX7_withMessage_40 (by decide) ?_
            refine n_icmp_ge (a := k) (b := 8) (tgt := 68) hx hb (by omega) (by decide) dX7_withMessage_42 (by decide) (fun c_4 => ?_) (fun c_5 => ?_)
            · skip
              obtain rfl : k = 8 := (by omega)
              refine lv_ldc2 (v := 31) hx hb hown (hts (.constantLong RX7 307 (31)) (by decide +kernel)) dX7_withMessage_68 ?_
              refine lv_lload hx hb dX7_withMessage_71 (lv_at hl 1 rfl) ?_
              refine lv_lmul hx hb dX7_withMessage_73 ?_
              refine lv_aload_n hx hb dX7_withMessage_74 rfl (lv_at hl 2 rfl) ?_
              refine lv_iload_n hx hb dX7_withMessage_75 rfl (lv_at hl 4 rfl) ?_
              refine k_rwV (As := [.int (nI mm)]) (rest := [.long ((31 : Int64) * (cM2 S mm gg 8))]) (wc := oX7 w q qz h t gr u tr oc Sw ++ oX2 T oc O ++ oX3 T q S) (wr := []) (w1 := oX7 w q qz h t gr u tr oc Sw ++ oX2 T oc (pBrO O S mm 6) ++ oX3 T q S) (d := 4) (mc := 0) (ms := 0) (v := (pBr S mm 6).1) (isC := [0, 1, 2, 3, 4, 5, 6, 7, 8, 9, 10, 11, 12, 13, 14]) (isR := []) cx (c_X7_bestRoom l G T H.size w q qz h t gr u tr oc Sw O S mm (by omega)) (cwV 1 hts gX7_withMessage_X7_bestRoom rfl rfl rfl (by decide +kernel) ⟨Nat.le_of_ble_eq_true rfl, Nat.le_of_ble_eq_true rfl⟩) ⟨hP, hD, hS, hA, hE, hK, rfl, rfl, rfl, rfl, by decide⟩ (va_recv hK hP (ci := 7) (q0 := 0) rfl rfl) rfl hl.1 rfl (Nat.le_of_ble_eq_true rfl) dX7_withMessage_76 ⟨Nat.le_of_ble_eq_true rfl, Nat.le_of_ble_eq_true rfl⟩ (fun H locs hP hD hS hz => ?_)
              have hP : va_P G vwCl [(w 0, .inr (7, [.ref (q 0), .ref (qz 0), .ref (h 0), .ref (t 0), .ref (gr 0), .ref (u 0), .ref (tr 0), .ref (oc 0), .int (Sw 0 8)])), (oc 0, .inr (2, [.int ((pBrO O S mm 6) 0 0), .int ((pBrO O S mm 6) 0 1), .int ((pBrO O S mm 6) 0 2), .int ((pBrO O S mm 6) 0 3), .int ((pBrO O S mm 6) 0 4)])), (q 0, .inr (3, [.int (S 0 0), .int (S 0 1), .int (S 0 2), .int (S 0 3), .ref (q 5), .ref (q 6), .ref (q 7), .ref (q 8), .ref (q 9), .ref (q 10), .ref (q 11), .ref (q 12), .ref (q 13), .ref (q 14), .ref (q 15), .ref (q 16)])), (q 5, .inl (T 0, 2, .inl (S 5))), (q 6, .inl (T 0, 20, .inl (S 6))), (q 7, .inl (T 0, 160, .inl (S 7))), (q 8, .inl (T 0, 20, .inl (S 8))), (q 9, .inl (T 0, 20, .inl (S 9))), (q 10, .inl (T 0, 20, .inl (S 10))), (q 11, .inl (T 0, 6, .inl (S 11))), (q 12, .inl (T 0, 6, .inl (S 12))), (q 13, .inl (T 0, 6, .inl (S 13))), (q 14, .inl (T 0, 6, .inl (S 14))), (q 15, .inl (T 0, 6, .inl (S 15))), (q 16, .inl (T 0, 2, .inl (S 16)))] H := hP
              have hD : va_D A [(w 0, .inr (7, [.ref (q 0), .ref (qz 0), .ref (h 0), .ref (t 0), .ref (gr 0), .ref (u 0), .ref (tr 0), .ref (oc 0), .int (Sw 0 8)])), (oc 0, .inr (2, [.int ((pBrO O S mm 6) 0 0), .int ((pBrO O S mm 6) 0 1), .int ((pBrO O S mm 6) 0 2), .int ((pBrO O S mm 6) 0 3), .int ((pBrO O S mm 6) 0 4)])), (q 0, .inr (3, [.int (S 0 0), .int (S 0 1), .int (S 0 2), .int (S 0 3), .ref (q 5), .ref (q 6), .ref (q 7), .ref (q 8), .ref (q 9), .ref (q 10), .ref (q 11), .ref (q 12), .ref (q 13), .ref (q 14), .ref (q 15), .ref (q 16)])), (q 5, .inl (T 0, 2, .inl (S 5))), (q 6, .inl (T 0, 20, .inl (S 6))), (q 7, .inl (T 0, 160, .inl (S 7))), (q 8, .inl (T 0, 20, .inl (S 8))), (q 9, .inl (T 0, 20, .inl (S 9))), (q 10, .inl (T 0, 20, .inl (S 10))), (q 11, .inl (T 0, 6, .inl (S 11))), (q 12, .inl (T 0, 6, .inl (S 12))), (q 13, .inl (T 0, 6, .inl (S 13))), (q 14, .inl (T 0, 6, .inl (S 14))), (q 15, .inl (T 0, 6, .inl (S 15))), (q 16, .inl (T 0, 2, .inl (S 16)))] := hD
              refine lv_i2l (v := (pBr S mm 6).1.toInt64) hx hb dX7_withMessage_79 rfl ?_
              refine lv_ladd hx hb dX7_withMessage_80 ?_
              subst hQ
              have hP9 : va_P G vwCl (oX7 w q qz h t gr u tr oc Sw ++ oX2 T oc (pBrO O S mm 6) ++ oX3 T q S) H := hP
              have hD9 : va_D A (oX7 w q qz h t gr u tr oc Sw ++ oX2 T oc (pBrO O S mm 6) ++ oX3 T q S) := hD
              exact e_rwl hx hb hr hlocks hS rfl hP9 hD9 dX7_withMessage_81
            · skip
              refine lv_ldc2 (v := 31) hx hb hown (hts (.constantLong RX7 307 (31)) (by decide +kernel)) dX7_withMessage_45 ?_
              refine lv_lload hx hb dX7_withMessage_48 (lv_at hl 1 rfl) ?_
              refine lv_lmul hx hb dX7_withMessage_50 ?_
              refine lv_aload_n hx hb dX7_withMessage_51 rfl (lv_at hl 2 rfl) ?_
              refine lv_iload_n hx hb dX7_withMessage_52 rfl (lv_at hl 4 rfl) ?_
              refine lv_iload hx hb dX7_withMessage_53 (lv_at hl 0 rfl) ?_
              refine k_roV (As := [.int (nI mm), .int (nI k)]) (rest := [.long ((31 : Int64) * (cM2 S mm gg k))]) (wc := oX7 w q qz h t gr u tr oc Sw ++ oX3 T q S) (d := 2) (v := pNote S mm k) cx (c_X7_note l G T A w q qz h t gr u tr oc Sw S mm k (by omega) (by omega)) (cwV 2 hts gX7_withMessage_X7_note rfl rfl rfl (by decide +kernel) ⟨Nat.le_of_ble_eq_true rfl, Nat.le_of_ble_eq_true rfl⟩) (hP.sub (ws' := oX7 w q qz h t gr u tr oc Sw ++ oX3 T q S) [0, 2, 3, 4, 5, 6, 7, 8, 9, 10, 11, 12, 13, 14] rfl) hK (hE.kept hS.2.1) (va_recv hK hP (ci := 7) (q0 := 0) rfl rfl) rfl hl.1 rfl (Nat.le_of_ble_eq_true rfl) dX7_withMessage_55 ⟨Nat.le_of_ble_eq_true rfl, Nat.le_of_ble_eq_true rfl⟩ ?_
              refine lv_i2l (v := (pNote S mm k).toInt64) hx hb dX7_withMessage_58 rfl ?_
              refine lv_ladd hx hb dX7_withMessage_59 ?_
              refine lv_lstore (lv' := [(4, .long (((31 : Int64) * (cM2 S mm gg k)) + ((pNote S mm k).toInt64))), (6, .int (nI k)), (0, .ref (w 0)), (1, .long gg), (3, .int (nI mm))]) hx hb dX7_withMessage_60 hl (by decide) rfl (fun ls hl => ?_)
              refine lv_iinc (v := nI (k + 1)) (lv' := [(6, .int (nI (k + 1))), (4, .long (((31 : Int64) * (cM2 S mm gg k)) + ((pNote S mm k).toInt64))), (0, .ref (w 0)), (1, .long gg), (3, .int (nI mm))]) hx hb dX7_withMessage_62 hl (k := 1) rfl (n_inc k 1 rfl) (by decide) rfl (fun ls hl => ?_)
              refine lv_goto (tgt := 38) hx hb dX7_withMessage_65 (by decide) ?_
              have e_6 : (((31 : Int64) * (cM2 S mm gg k)) + ((pNote S mm k).toInt64)) = cM2 S mm gg (k + 1) := rfl
              exact ih38 (k + 1) (by omega) (by omega) _ _ rfl e_6 _ _ hP hD hS _ (lv_sub hl [0, 1, 2, 3, 4] rfl)
        exact L38_i_3 (8 + 1) 0 (by omega) (by omega) _ _ rfl rfl _ _ hP hD hS _ (lv_sub hl [0, 1, 2, 3, 4] rfl)
      · skip
        refine lv_ldc2 (v := 31) hx hb hown (hts (.constantLong RX7 307 (31)) (by decide +kernel)) dX7_withMessage_12 ?_
        refine lv_lload hx hb dX7_withMessage_15 (lv_at hl 1 rfl) ?_
        refine lv_lmul hx hb dX7_withMessage_17 ?_
        refine lv_aload_n hx hb dX7_withMessage_18 rfl (lv_at hl 2 rfl) ?_
        refine lv_iload_n hx hb dX7_withMessage_19 rfl (lv_at hl 4 rfl) ?_
        refine lv_iload hx hb dX7_withMessage_20 (lv_at hl 0 rfl) ?_
        refine k_roV (As := [.int (nI mm), .int (nI k)]) (rest := [.long ((31 : Int64) * (cM1 S mm gg k))]) (wc := oX7 w q qz h t gr u tr oc Sw ++ oX3 T q S) (d := 1) (v := pMsg S mm k) cx (c_X7_message l G T A w q qz h t gr u tr oc Sw S mm k (by omega) (by omega)) (cwV 2 hts gX7_withMessage_X7_message rfl rfl rfl (by decide +kernel) ⟨Nat.le_of_ble_eq_true rfl, Nat.le_of_ble_eq_true rfl⟩) (hP.sub (ws' := oX7 w q qz h t gr u tr oc Sw ++ oX3 T q S) [0, 2, 3, 4, 5, 6, 7, 8, 9, 10, 11, 12, 13, 14] rfl) hK (hE.kept hS.2.1) (va_recv hK hP (ci := 7) (q0 := 0) rfl rfl) rfl hl.1 rfl (Nat.le_of_ble_eq_true rfl) dX7_withMessage_22 ⟨Nat.le_of_ble_eq_true rfl, Nat.le_of_ble_eq_true rfl⟩ ?_
        refine lv_i2l (v := (pMsg S mm k).toInt64) hx hb dX7_withMessage_25 rfl ?_
        refine lv_ladd hx hb dX7_withMessage_26 ?_
        refine lv_lstore (lv' := [(4, .long (((31 : Int64) * (cM1 S mm gg k)) + ((pMsg S mm k).toInt64))), (6, .int (nI k)), (0, .ref (w 0)), (1, .long gg), (3, .int (nI mm))]) hx hb dX7_withMessage_27 hl (by decide) rfl (fun ls hl => ?_)
        refine lv_iinc (v := nI (k + 1)) (lv' := [(6, .int (nI (k + 1))), (4, .long (((31 : Int64) * (cM1 S mm gg k)) + ((pMsg S mm k).toInt64))), (0, .ref (w 0)), (1, .long gg), (3, .int (nI mm))]) hx hb dX7_withMessage_29 hl (k := 1) rfl (n_inc k 1 rfl) (by decide) rfl (fun ls hl => ?_)
        refine lv_goto (tgt := 6) hx hb dX7_withMessage_32 (by decide) ?_
        have e_7 : (((31 : Int64) * (cM1 S mm gg k)) + ((pMsg S mm k).toInt64)) = cM1 S mm gg (k + 1) := rfl
        exact ih6 (k + 1) (by omega) (by omega) _ _ rfl e_7 _ _ hP hD hS _ (lv_sub hl [0, 1, 2, 3, 4] rfl)
  exact L6 (4 + 1) 0 (by omega) (by omega) _ _ rfl rfl _ _ hP hD hS _ (lv_sub hl [0, 1, 2, 3, 4] rfl)
set_option maxHeartbeats 4000000 in
set_option maxRecDepth 100000 in
theorem c_X7_withRoom (l : Launch) (G : va_G) (T : Nat → ClassId) (sz : Nat) (w : Nat → Nat) (q : Nat → Nat) (qz : Nat → Nat) (h : Nat → Nat) (t : Nat → Nat) (gr : Nat → Nat) (u : Nat → Nat) (tr : Nat → Nat) (oc : Nat → Nat) (Sw : Nat → Nat → Int32) (O : Nat → Nat → Int32) (S : Nat → Nat → Int32) (gg : Int64) (rr : Nat) (hr6 : rr < 6) : RWl l yX7_withRoom wsX7_withRoom 5 0 0 G T sz (oX7 w q qz h t gr u tr oc Sw ++ oX2 T oc O ++ oX3 T q S) [.ref (w 0), .long gg, .int (nI rr)] (cR2 S rr gg 4) (oX7 w q qz h t gr u tr oc Sw ++ oX2 T oc (cRO O S rr 4) ++ oX3 T q S) := by
  refine Met.ofW (cc := cX7_withRoom) (maxL := 7) (ret := (some .long)) (by decide) rfl ?_
  intro p e s m args below meth c s₁ B hml hv
  obtain ⟨ha, hsz, hP, hK, hD0, hE0⟩ := hv
  have hx := B.exec
  have hb := B.bytes
  have hr := B.returns
  have hlocks := B.notSynchronized
  have hts := atoms_spec (ws := wsX7_withRoom) B.pre
  have hown : s.vm.findClass RX7 = some m.cls := findClass_of_methodNamed B.named
  have cx : CallFix p m c cX7_withRoom 7 s args wsX7_withRoom RX7 := ⟨hx, hb, hml, hown, hts⟩
  subst hsz
  have hD := hD0.self (sz := s.heap.size)
  generalize hAe : va_A (oX7 w q qz h t gr u tr oc Sw ++ oX2 T oc O ++ oX3 T q S) s.heap.size = A at hD hE0 ⊢
  have hE : gE A s s.heap := hE0
  have hA : ∀ q : Nat, s.heap.size ≤ q → A q := fun q h => by rw [← hAe]; exact Or.inr h
  have hS : va_S A s.heap s.heap [] := va_S.rf
  refine w_entry ha (Nat.le_of_ble_eq_true rfl) (fun ls hl => ?_)
  refine w_q (fun Q0 hQ => ?_)
  have hl : lv_has ls 7 [(0, .ref (w 0)), (1, .long gg), (3, .int (nI rr))] := hl
  have hP : va_P G vwCl [(w 0, .inr (7, [.ref (q 0), .ref (qz 0), .ref (h 0), .ref (t 0), .ref (gr 0), .ref (u 0), .ref (tr 0), .ref (oc 0), .int (Sw 0 8)])), (oc 0, .inr (2, [.int (O 0 0), .int (O 0 1), .int (O 0 2), .int (O 0 3), .int (O 0 4)])), (q 0, .inr (3, [.int (S 0 0), .int (S 0 1), .int (S 0 2), .int (S 0 3), .ref (q 5), .ref (q 6), .ref (q 7), .ref (q 8), .ref (q 9), .ref (q 10), .ref (q 11), .ref (q 12), .ref (q 13), .ref (q 14), .ref (q 15), .ref (q 16)])), (q 5, .inl (T 0, 2, .inl (S 5))), (q 6, .inl (T 0, 20, .inl (S 6))), (q 7, .inl (T 0, 160, .inl (S 7))), (q 8, .inl (T 0, 20, .inl (S 8))), (q 9, .inl (T 0, 20, .inl (S 9))), (q 10, .inl (T 0, 20, .inl (S 10))), (q 11, .inl (T 0, 6, .inl (S 11))), (q 12, .inl (T 0, 6, .inl (S 12))), (q 13, .inl (T 0, 6, .inl (S 13))), (q 14, .inl (T 0, 6, .inl (S 14))), (q 15, .inl (T 0, 6, .inl (S 15))), (q 16, .inl (T 0, 2, .inl (S 16)))] s.heap := hP
  have hD : va_D A [(w 0, .inr (7, [.ref (q 0), .ref (qz 0), .ref (h 0), .ref (t 0), .ref (gr 0), .ref (u 0), .ref (tr 0), .ref (oc 0), .int (Sw 0 8)])), (oc 0, .inr (2, [.int (O 0 0), .int (O 0 1), .int (O 0 2), .int (O 0 3), .int (O 0 4)])), (q 0, .inr (3, [.int (S 0 0), .int (S 0 1), .int (S 0 2), .int (S 0 3), .ref (q 5), .ref (q 6), .ref (q 7), .ref (q 8), .ref (q 9), .ref (q 10), .ref (q 11), .ref (q 12), .ref (q 13), .ref (q 14), .ref (q 15), .ref (q 16)])), (q 5, .inl (T 0, 2, .inl (S 5))), (q 6, .inl (T 0, 20, .inl (S 6))), (q 7, .inl (T 0, 160, .inl (S 7))), (q 8, .inl (T 0, 20, .inl (S 8))), (q 9, .inl (T 0, 20, .inl (S 9))), (q 10, .inl (T 0, 20, .inl (S 10))), (q 11, .inl (T 0, 6, .inl (S 11))), (q 12, .inl (T 0, 6, .inl (S 12))), (q 13, .inl (T 0, 6, .inl (S 13))), (q 14, .inl (T 0, 6, .inl (S 14))), (q 15, .inl (T 0, 6, .inl (S 15))), (q 16, .inl (T 0, 2, .inl (S 16)))] := hD
  skip
  refine w_h (fun H locs hHe hLe => ?_)
  have hP : va_P G vwCl [(w 0, .inr (7, [.ref (q 0), .ref (qz 0), .ref (h 0), .ref (t 0), .ref (gr 0), .ref (u 0), .ref (tr 0), .ref (oc 0), .int (Sw 0 8)])), (oc 0, .inr (2, [.int (O 0 0), .int (O 0 1), .int (O 0 2), .int (O 0 3), .int (O 0 4)])), (q 0, .inr (3, [.int (S 0 0), .int (S 0 1), .int (S 0 2), .int (S 0 3), .ref (q 5), .ref (q 6), .ref (q 7), .ref (q 8), .ref (q 9), .ref (q 10), .ref (q 11), .ref (q 12), .ref (q 13), .ref (q 14), .ref (q 15), .ref (q 16)])), (q 5, .inl (T 0, 2, .inl (S 5))), (q 6, .inl (T 0, 20, .inl (S 6))), (q 7, .inl (T 0, 160, .inl (S 7))), (q 8, .inl (T 0, 20, .inl (S 8))), (q 9, .inl (T 0, 20, .inl (S 9))), (q 10, .inl (T 0, 20, .inl (S 10))), (q 11, .inl (T 0, 6, .inl (S 11))), (q 12, .inl (T 0, 6, .inl (S 12))), (q 13, .inl (T 0, 6, .inl (S 13))), (q 14, .inl (T 0, 6, .inl (S 14))), (q 15, .inl (T 0, 6, .inl (S 15))), (q 16, .inl (T 0, 2, .inl (S 16)))] H := by rw [hHe]; exact hP
  have hS : va_S A s.heap H locs := by rw [hHe, hLe]; exact hS
  refine lv_lload_n hx hb dX7_withRoom_0 rfl (lv_at hl 1 rfl) ?_
  refine lv_lstore (lv' := [(4, .long gg), (0, .ref (w 0)), (1, .long gg), (3, .int (nI rr))]) hx hb dX7_withRoom_1 hl (by decide) rfl (fun ls hl => ?_)
  refine n_iconst hx hb 0 dX7_withRoom_3 (by decide) ?_
  refine lv_istore (lv' := [(6, .int (nI 0)), (4, .long gg), (0, .ref (w 0)), (1, .long gg), (3, .int (nI rr))]) hx hb dX7_withRoom_4 hl (by decide) rfl (fun ls hl => ?_)
  have L6 : ∀ (n9 k : Nat) (hk1 : k ≤ 6) (hk2 : 6 - k < n9) (x6 : Int32) (x4 : Int64) (hx6 : x6 = nI k) (hx4 : x4 = cR1 S rr gg k) (H : Heap) (locs : List Loc) (hP : va_P G vwCl [(w 0, .inr (7, [.ref (q 0), .ref (qz 0), .ref (h 0), .ref (t 0), .ref (gr 0), .ref (u 0), .ref (tr 0), .ref (oc 0), .int (Sw 0 8)])), (oc 0, .inr (2, [.int (O 0 0), .int (O 0 1), .int (O 0 2), .int (O 0 3), .int (O 0 4)])), (q 0, .inr (3, [.int (S 0 0), .int (S 0 1), .int (S 0 2), .int (S 0 3), .ref (q 5), .ref (q 6), .ref (q 7), .ref (q 8), .ref (q 9), .ref (q 10), .ref (q 11), .ref (q 12), .ref (q 13), .ref (q 14), .ref (q 15), .ref (q 16)])), (q 5, .inl (T 0, 2, .inl (S 5))), (q 6, .inl (T 0, 20, .inl (S 6))), (q 7, .inl (T 0, 160, .inl (S 7))), (q 8, .inl (T 0, 20, .inl (S 8))), (q 9, .inl (T 0, 20, .inl (S 9))), (q 10, .inl (T 0, 20, .inl (S 10))), (q 11, .inl (T 0, 6, .inl (S 11))), (q 12, .inl (T 0, 6, .inl (S 12))), (q 13, .inl (T 0, 6, .inl (S 13))), (q 14, .inl (T 0, 6, .inl (S 14))), (q 15, .inl (T 0, 6, .inl (S 15))), (q 16, .inl (T 0, 2, .inl (S 16)))] H) (hD : va_D A [(w 0, .inr (7, [.ref (q 0), .ref (qz 0), .ref (h 0), .ref (t 0), .ref (gr 0), .ref (u 0), .ref (tr 0), .ref (oc 0), .int (Sw 0 8)])), (oc 0, .inr (2, [.int (O 0 0), .int (O 0 1), .int (O 0 2), .int (O 0 3), .int (O 0 4)])), (q 0, .inr (3, [.int (S 0 0), .int (S 0 1), .int (S 0 2), .int (S 0 3), .ref (q 5), .ref (q 6), .ref (q 7), .ref (q 8), .ref (q 9), .ref (q 10), .ref (q 11), .ref (q 12), .ref (q 13), .ref (q 14), .ref (q 15), .ref (q 16)])), (q 5, .inl (T 0, 2, .inl (S 5))), (q 6, .inl (T 0, 20, .inl (S 6))), (q 7, .inl (T 0, 160, .inl (S 7))), (q 8, .inl (T 0, 20, .inl (S 8))), (q 9, .inl (T 0, 20, .inl (S 9))), (q 10, .inl (T 0, 20, .inl (S 10))), (q 11, .inl (T 0, 6, .inl (S 11))), (q 12, .inl (T 0, 6, .inl (S 12))), (q 13, .inl (T 0, 6, .inl (S 13))), (q 14, .inl (T 0, 6, .inl (S 14))), (q 15, .inl (T 0, 6, .inl (S 15))), (q 16, .inl (T 0, 2, .inl (S 16)))]) (hS : va_S A s.heap H locs) (ls : Array Slot) (hl : lv_has ls 7 [(6, .int x6), (4, .long x4), (0, .ref (w 0)), (1, .long gg), (3, .int (nI rr))]), W p l e (headSpec wsX7_withRoom (rmD 5 0 0)).room s m args below meth c H locs 0 0 Q0 (F0 m 6 ls []) := by
    intro n9
    induction n9 with
    | zero => intros; omega
    | succ n9 ih6 =>
      intro k hk1 hk2 x6 x4 hx6 hx4 H locs hP hD hS ls hl
      subst hx6 hx4
      refine lv_iload hx hb dX7_withRoom_6 (lv_at hl 0 rfl) ?_
      refine lv_bipush (v := nI 6) hx hb dX7_withRoom_8 (by decide) ?_
      refine n_icmp_ge (a := k) (b := 6) (tgt := 36) hx hb (by omega) (by decide) dX7_withRoom_10 (by decide) (fun c_1 => ?_) (fun c_2 => ?_)
      · skip
        obtain rfl : k = 6 := (by omega)
        refine lv_ldc2 (v := 31) hx hb hown (hts (.constantLong RX7 307 (31)) (by decide +kernel)) dX7_withRoom_36 ?_
        refine lv_lload hx hb dX7_withRoom_39 (lv_at hl 1 rfl) ?_
        refine lv_lmul hx hb dX7_withRoom_41 ?_
        refine lv_aload_n hx hb dX7_withRoom_42 rfl (lv_at hl 2 rfl) ?_
        refine lv_iload_n hx hb dX7_withRoom_43 rfl (lv_at hl 4 rfl) ?_
        refine n_iconst hx hb 0 dX7_withRoom_44 (by decide) ?_
        refine k_roV (As := [.int (nI rr), .int (nI 0)]) (rest := [.long ((31 : Int64) * (cR1 S rr gg 6))]) (wc := oX7 w q qz h t gr u tr oc Sw ++ oX3 T q S) (d := 3) (v := pWhy S rr 0) cx (c_X7_whyNot l G T A w q qz h t gr u tr oc Sw S rr 0 (by omega) (by omega)) (cwV 2 hts gX7_withRoom_X7_whyNot rfl rfl rfl (by decide +kernel) ⟨Nat.le_of_ble_eq_true rfl, Nat.le_of_ble_eq_true rfl⟩) (hP.sub (ws' := oX7 w q qz h t gr u tr oc Sw ++ oX3 T q S) [0, 2, 3, 4, 5, 6, 7, 8, 9, 10, 11, 12, 13, 14] rfl) hK (hE.kept hS.2.1) (va_recv hK hP (ci := 7) (q0 := 0) rfl rfl) rfl hl.1 rfl (Nat.le_of_ble_eq_true rfl) dX7_withRoom_45 ⟨Nat.le_of_ble_eq_true rfl, Nat.le_of_ble_eq_true rfl⟩ ?_
        refine lv_i2l (v := (pWhy S rr 0).toInt64) hx hb dX7_withRoom_48 rfl ?_
        refine lv_ladd hx hb dX7_withRoom_49 ?_
        refine lv_lstore (lv' := [(4, .long (((31 : Int64) * (cR1 S rr gg 6)) + ((pWhy S rr 0).toInt64))), (6, .int (nI 6)), (0, .ref (w 0)), (1, .long gg), (3, .int (nI rr))]) hx hb dX7_withRoom_50 hl (by decide) rfl (fun ls hl => ?_)
        refine n_iconst hx hb 0 dX7_withRoom_52 (by decide) ?_
        refine lv_istore (lv' := [(6, .int (nI 0)), (4, .long (((31 : Int64) * (cR1 S rr gg 6)) + ((pWhy S rr 0).toInt64))), (0, .ref (w 0)), (1, .long gg), (3, .int (nI rr))]) hx hb dX7_withRoom_53 hl (by decide) rfl (fun ls hl => ?_)
        have L55_i_3 : ∀ (n9 k : Nat) (hk1 : k ≤ 4) (hk2 : 4 - k < n9) (x6 : Int32) (x4 : Int64) (B_4 : Nat → Nat → Int32) (hx6 : x6 = nI k) (hx4 : x4 = cR2 S rr gg k) (hB_4 : B_4 = cRO O S rr k) (H : Heap) (locs : List Loc) (hP : va_P G vwCl [(w 0, .inr (7, [.ref (q 0), .ref (qz 0), .ref (h 0), .ref (t 0), .ref (gr 0), .ref (u 0), .ref (tr 0), .ref (oc 0), .int (Sw 0 8)])), (oc 0, .inr (2, [.int (B_4 0 0), .int (B_4 0 1), .int (B_4 0 2), .int (B_4 0 3), .int (B_4 0 4)])), (q 0, .inr (3, [.int (S 0 0), .int (S 0 1), .int (S 0 2), .int (S 0 3), .ref (q 5), .ref (q 6), .ref (q 7), .ref (q 8), .ref (q 9), .ref (q 10), .ref (q 11), .ref (q 12), .ref (q 13), .ref (q 14), .ref (q 15), .ref (q 16)])), (q 5, .inl (T 0, 2, .inl (S 5))), (q 6, .inl (T 0, 20, .inl (S 6))), (q 7, .inl (T 0, 160, .inl (S 7))), (q 8, .inl (T 0, 20, .inl (S 8))), (q 9, .inl (T 0, 20, .inl (S 9))), (q 10, .inl (T 0, 20, .inl (S 10))), (q 11, .inl (T 0, 6, .inl (S 11))), (q 12, .inl (T 0, 6, .inl (S 12))), (q 13, .inl (T 0, 6, .inl (S 13))), (q 14, .inl (T 0, 6, .inl (S 14))), (q 15, .inl (T 0, 6, .inl (S 15))), (q 16, .inl (T 0, 2, .inl (S 16)))] H) (hD : va_D A [(w 0, .inr (7, [.ref (q 0), .ref (qz 0), .ref (h 0), .ref (t 0), .ref (gr 0), .ref (u 0), .ref (tr 0), .ref (oc 0), .int (Sw 0 8)])), (oc 0, .inr (2, [.int (B_4 0 0), .int (B_4 0 1), .int (B_4 0 2), .int (B_4 0 3), .int (B_4 0 4)])), (q 0, .inr (3, [.int (S 0 0), .int (S 0 1), .int (S 0 2), .int (S 0 3), .ref (q 5), .ref (q 6), .ref (q 7), .ref (q 8), .ref (q 9), .ref (q 10), .ref (q 11), .ref (q 12), .ref (q 13), .ref (q 14), .ref (q 15), .ref (q 16)])), (q 5, .inl (T 0, 2, .inl (S 5))), (q 6, .inl (T 0, 20, .inl (S 6))), (q 7, .inl (T 0, 160, .inl (S 7))), (q 8, .inl (T 0, 20, .inl (S 8))), (q 9, .inl (T 0, 20, .inl (S 9))), (q 10, .inl (T 0, 20, .inl (S 10))), (q 11, .inl (T 0, 6, .inl (S 11))), (q 12, .inl (T 0, 6, .inl (S 12))), (q 13, .inl (T 0, 6, .inl (S 13))), (q 14, .inl (T 0, 6, .inl (S 14))), (q 15, .inl (T 0, 6, .inl (S 15))), (q 16, .inl (T 0, 2, .inl (S 16)))]) (hS : va_S A s.heap H locs) (ls : Array Slot) (hl : lv_has ls 7 [(6, .int x6), (4, .long x4), (0, .ref (w 0)), (1, .long gg), (3, .int (nI rr))]), W p l e (headSpec wsX7_withRoom (rmD 5 0 0)).room s m args below meth c H locs 0 0 Q0 (F0 m 55 ls []) := by
          intro n9
          induction n9 with
          | zero => intros; omega
          | succ n9 ih55 =>
            intro k hk1 hk2 x6 x4 B_4 hx6 hx4 hB_4 H locs hP hD hS ls hl
            subst hx6 hx4 hB_4
            refine lv_iload hx hb dX7_withRoom_55 (lv_at hl 0 rfl) ?_
            refine n_iconst hx hb 4 dX7_withRoom_57 (by decide) ?_
            refine n_icmp_ge (a := k) (b := 4) (tgt := 86) hx hb (by omega) (by decide) dX7_withRoom_58 (by decide) (fun c_5 => ?_) (fun c_6 => ?_)
            · skip
              obtain rfl : k = 4 := (by omega)
              refine lv_lload hx hb dX7_withRoom_86 (lv_at hl 1 rfl) ?_
              subst hQ
              have hP9 : va_P G vwCl (oX7 w q qz h t gr u tr oc Sw ++ oX2 T oc (cRO O S rr 4) ++ oX3 T q S) H := hP
              have hD9 : va_D A (oX7 w q qz h t gr u tr oc Sw ++ oX2 T oc (cRO O S rr 4) ++ oX3 T q S) := hD
              exact e_rwl hx hb hr hlocks hS rfl hP9 hD9 dX7_withRoom_88
            · skip
              refine lv_ldc2 (v := 31) hx hb hown (hts (.constantLong RX7 307 (31)) (by decide +kernel)) dX7_withRoom_61 ?_
              refine lv_lload hx hb dX7_withRoom_64 (lv_at hl 1 rfl) ?_
              refine lv_lmul hx hb dX7_withRoom_66 ?_
              refine lv_aload_n hx hb dX7_withRoom_67 rfl (lv_at hl 2 rfl) ?_
              refine lv_iload_n hx hb dX7_withRoom_68 rfl (lv_at hl 4 rfl) ?_
              refine lv_bipush (v := nI 12) hx hb dX7_withRoom_69 (by decide) ?_
              refine lv_iload hx hb dX7_withRoom_71 (lv_at hl 0 rfl) ?_
              refine k_rwV (As := [.int (nI rr), .int (nI 12), .int (nI k)]) (rest := [.long ((31 : Int64) * (cR2 S rr gg k))]) (wc := oX7 w q qz h t gr u tr oc Sw ++ oX2 T oc (cRO O S rr k) ++ oX3 T q S) (wr := []) (w1 := oX7 w q qz h t gr u tr oc Sw ++ oX2 T oc (pIfO (cRO O S rr k) S rr 12) ++ oX3 T q S) (d := 4) (mc := 0) (ms := 0) (v := pIf S rr 12 k) (isC := [0, 1, 2, 3, 4, 5, 6, 7, 8, 9, 10, 11, 12, 13, 14]) (isR := []) cx (c_X7_ifWhistled l G T H.size w q qz h t gr u tr oc Sw (cRO O S rr k) S rr 12 k (by omega) (by omega) (by omega)) (cwV 3 hts gX7_withRoom_X7_ifWhistled rfl rfl rfl (by decide +kernel) ⟨Nat.le_of_ble_eq_true rfl, Nat.le_of_ble_eq_true rfl⟩) ⟨hP, hD, hS, hA, hE, hK, rfl, rfl, rfl, rfl, by decide⟩ (va_recv hK hP (ci := 7) (q0 := 0) rfl rfl) rfl hl.1 rfl (Nat.le_of_ble_eq_true rfl) dX7_withRoom_73 ⟨Nat.le_of_ble_eq_true rfl, Nat.le_of_ble_eq_true rfl⟩ (fun H locs hP hD hS hz => ?_)
              have hP : va_P G vwCl [(w 0, .inr (7, [.ref (q 0), .ref (qz 0), .ref (h 0), .ref (t 0), .ref (gr 0), .ref (u 0), .ref (tr 0), .ref (oc 0), .int (Sw 0 8)])), (oc 0, .inr (2, [.int ((pIfO (cRO O S rr k) S rr 12) 0 0), .int ((pIfO (cRO O S rr k) S rr 12) 0 1), .int ((pIfO (cRO O S rr k) S rr 12) 0 2), .int ((pIfO (cRO O S rr k) S rr 12) 0 3), .int ((pIfO (cRO O S rr k) S rr 12) 0 4)])), (q 0, .inr (3, [.int (S 0 0), .int (S 0 1), .int (S 0 2), .int (S 0 3), .ref (q 5), .ref (q 6), .ref (q 7), .ref (q 8), .ref (q 9), .ref (q 10), .ref (q 11), .ref (q 12), .ref (q 13), .ref (q 14), .ref (q 15), .ref (q 16)])), (q 5, .inl (T 0, 2, .inl (S 5))), (q 6, .inl (T 0, 20, .inl (S 6))), (q 7, .inl (T 0, 160, .inl (S 7))), (q 8, .inl (T 0, 20, .inl (S 8))), (q 9, .inl (T 0, 20, .inl (S 9))), (q 10, .inl (T 0, 20, .inl (S 10))), (q 11, .inl (T 0, 6, .inl (S 11))), (q 12, .inl (T 0, 6, .inl (S 12))), (q 13, .inl (T 0, 6, .inl (S 13))), (q 14, .inl (T 0, 6, .inl (S 14))), (q 15, .inl (T 0, 6, .inl (S 15))), (q 16, .inl (T 0, 2, .inl (S 16)))] H := hP
              have hD : va_D A [(w 0, .inr (7, [.ref (q 0), .ref (qz 0), .ref (h 0), .ref (t 0), .ref (gr 0), .ref (u 0), .ref (tr 0), .ref (oc 0), .int (Sw 0 8)])), (oc 0, .inr (2, [.int ((pIfO (cRO O S rr k) S rr 12) 0 0), .int ((pIfO (cRO O S rr k) S rr 12) 0 1), .int ((pIfO (cRO O S rr k) S rr 12) 0 2), .int ((pIfO (cRO O S rr k) S rr 12) 0 3), .int ((pIfO (cRO O S rr k) S rr 12) 0 4)])), (q 0, .inr (3, [.int (S 0 0), .int (S 0 1), .int (S 0 2), .int (S 0 3), .ref (q 5), .ref (q 6), .ref (q 7), .ref (q 8), .ref (q 9), .ref (q 10), .ref (q 11), .ref (q 12), .ref (q 13), .ref (q 14), .ref (q 15), .ref (q 16)])), (q 5, .inl (T 0, 2, .inl (S 5))), (q 6, .inl (T 0, 20, .inl (S 6))), (q 7, .inl (T 0, 160, .inl (S 7))), (q 8, .inl (T 0, 20, .inl (S 8))), (q 9, .inl (T 0, 20, .inl (S 9))), (q 10, .inl (T 0, 20, .inl (S 10))), (q 11, .inl (T 0, 6, .inl (S 11))), (q 12, .inl (T 0, 6, .inl (S 12))), (q 13, .inl (T 0, 6, .inl (S 13))), (q 14, .inl (T 0, 6, .inl (S 14))), (q 15, .inl (T 0, 6, .inl (S 15))), (q 16, .inl (T 0, 2, .inl (S 16)))] := hD
              refine lv_i2l (v := (pIf S rr 12 k).toInt64) hx hb dX7_withRoom_76 rfl ?_
              refine lv_ladd hx hb dX7_withRoom_77 ?_
              refine lv_lstore (lv' := [(4, .long (((31 : Int64) * (cR2 S rr gg k)) + ((pIf S rr 12 k).toInt64))), (6, .int (nI k)), (0, .ref (w 0)), (1, .long gg), (3, .int (nI rr))]) hx hb dX7_withRoom_78 hl (by decide) rfl (fun ls hl => ?_)
              refine lv_iinc (v := nI (k + 1)) (lv' := [(6, .int (nI (k + 1))), (4, .long (((31 : Int64) * (cR2 S rr gg k)) + ((pIf S rr 12 k).toInt64))), (0, .ref (w 0)), (1, .long gg), (3, .int (nI rr))]) hx hb dX7_withRoom_80 hl (k := 1) rfl (n_inc k 1 rfl) (by decide) rfl (fun ls hl => ?_)
              refine lv_goto (tgt := 55) hx hb dX7_withRoom_83 (by decide) ?_
              have e_7 : (((31 : Int64) * (cR2 S rr gg k)) + ((pIf S rr 12 k).toInt64)) = cR2 S rr gg (k + 1) := rfl
              have e_8 : (pIfO (cRO O S rr k) S rr 12) = cRO O S rr (k + 1) := rfl
              exact ih55 (k + 1) (by omega) (by omega) _ _ _ rfl e_7 e_8 _ _ hP hD hS _ (lv_sub hl [0, 1, 2, 3, 4] rfl)
        exact L55_i_3 (4 + 1) 0 (by omega) (by omega) _ _ _ rfl rfl rfl _ _ hP hD hS _ (lv_sub hl [0, 1, 2, 3, 4] rfl)
      · skip
        refine lv_ldc2 (v := 31) hx hb hown (hts (.constantLong RX7 307 (31)) (by decide +kernel)) dX7_withRoom_13 ?_
        refine lv_lload hx hb dX7_withRoom_16 (lv_at hl 1 rfl) ?_
        refine lv_lmul hx hb dX7_withRoom_18 ?_
        refine lv_aload_n hx hb dX7_withRoom_19 rfl (lv_at hl 2 rfl) ?_
        refine lv_iload_n hx hb dX7_withRoom_20 rfl (lv_at hl 4 rfl) ?_
        refine lv_iload hx hb dX7_withRoom_21 (lv_at hl 0 rfl) ?_
        refine k_roV (As := [.int (nI rr), .int (nI k)]) (rest := [.long ((31 : Int64) * (cR1 S rr gg k))]) (wc := oX7 w q qz h t gr u tr oc Sw ++ oX3 T q S) (d := 2) (v := pRm S rr k) cx (c_X7_room l G T A w q qz h t gr u tr oc Sw S rr k (by omega) (by omega)) (cwV 2 hts gX7_withRoom_X7_room rfl rfl rfl (by decide +kernel) ⟨Nat.le_of_ble_eq_true rfl, Nat.le_of_ble_eq_true rfl⟩) (hP.sub (ws' := oX7 w q qz h t gr u tr oc Sw ++ oX3 T q S) [0, 2, 3, 4, 5, 6, 7, 8, 9, 10, 11, 12, 13, 14] rfl) hK (hE.kept hS.2.1) (va_recv hK hP (ci := 7) (q0 := 0) rfl rfl) rfl hl.1 rfl (Nat.le_of_ble_eq_true rfl) dX7_withRoom_23 ⟨Nat.le_of_ble_eq_true rfl, Nat.le_of_ble_eq_true rfl⟩ ?_
        refine lv_i2l (v := (pRm S rr k).toInt64) hx hb dX7_withRoom_26 rfl ?_
        refine lv_ladd hx hb dX7_withRoom_27 ?_
        refine lv_lstore (lv' := [(4, .long (((31 : Int64) * (cR1 S rr gg k)) + ((pRm S rr k).toInt64))), (6, .int (nI k)), (0, .ref (w 0)), (1, .long gg), (3, .int (nI rr))]) hx hb dX7_withRoom_28 hl (by decide) rfl (fun ls hl => ?_)
        refine lv_iinc (v := nI (k + 1)) (lv' := [(6, .int (nI (k + 1))), (4, .long (((31 : Int64) * (cR1 S rr gg k)) + ((pRm S rr k).toInt64))), (0, .ref (w 0)), (1, .long gg), (3, .int (nI rr))]) hx hb dX7_withRoom_30 hl (k := 1) rfl (n_inc k 1 rfl) (by decide) rfl (fun ls hl => ?_)
        refine lv_goto (tgt := 6) hx hb dX7_withRoom_33 (by decide) ?_
        have e_9 : (((31 : Int64) * (cR1 S rr gg k)) + ((pRm S rr k).toInt64)) = cR1 S rr gg (k + 1) := rfl
        exact ih6 (k + 1) (by omega) (by omega) _ _ rfl e_9 _ _ hP hD hS _ (lv_sub hl [0, 1, 2, 3, 4] rfl)
  exact L6 (6 + 1) 0 (by omega) (by omega) _ _ rfl rfl _ _ hP hD hS _ (lv_sub hl [0, 1, 2, 3, 4] rfl)
