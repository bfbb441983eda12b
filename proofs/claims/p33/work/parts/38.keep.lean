set_option maxHeartbeats 4000000 in
set_option maxRecDepth 100000 in
theorem c_X7_forget (l : Launch) (G : va_G) (T : Nat → ClassId) (sz : Nat) (w : Nat → Nat) (q : Nat → Nat) (qz : Nat → Nat) (h : Nat → Nat) (t : Nat → Nat) (gr : Nat → Nat) (u : Nat → Nat) (tr : Nat → Nat) (oc : Nat → Nat) (Sw : Nat → Nat → Int32) (S : Nat → Nat → Int32) (Sh : Nat → Nat → Int32) (qs : Nat → Nat → Nat) (Hs : Nat → Nat → Nat → Int32) (o : Nat) (n : Nat) (mm : Nat) (ho : Sh 0 1 = nI o) (hn : Sh 0 2 = nI n) (ho6 : o < 6) (hn6 : n ≤ 6) (hm20 : mm < 20) : RWi l yX7_forget wsX7_forget 3 0 0 G T sz (oX7 w q qz h t gr u tr oc Sw ++ oX3 T q S ++ oX1 T h qs Sh Hs) [.ref (w 0), .int (nI mm)] (S 6 mm) (oX7 w q qz h t gr u tr oc Sw ++ oX3 T q (sa S 6 (upd (S 6) mm (nI 0))) ++ oX1 T h qs (sc (sc Sh 1 (nI (hPo o n))) 2 (nI (hPn n))) (updS Hs (hPi o n) S)) := by
  refine Met.ofW (cc := cX7_forget) (maxL := 3) (ret := (some .int)) (by decide) rfl ?_
  intro p e s m args below meth c s₁ B hml hv
  obtain ⟨ha, hsz, hP, hK, hD0, hE0⟩ := hv
  have hx := B.exec
  have hb := B.bytes
  have hr := B.returns
  have hlocks := B.notSynchronized
  have hts := atoms_spec (ws := wsX7_forget) B.pre
  have hown : s.vm.findClass RX7 = some m.cls := findClass_of_methodNamed B.named
  have cx : CallFix p m c cX7_forget 3 s args wsX7_forget RX7 := ⟨hx, hb, hml, hown, hts⟩
  subst hsz
  have hD := hD0.self (sz := s.heap.size)
  generalize hAe : va_A (oX7 w q qz h t gr u tr oc Sw ++ oX3 T q S ++ oX1 T h qs Sh Hs) s.heap.size = A at hD hE0 ⊢
  have hE : gE A s s.heap := hE0
  have hA : ∀ q : Nat, s.heap.size ≤ q → A q := fun q h => by rw [← hAe]; exact Or.inr h
  have hS : va_S A s.heap s.heap [] := va_S.rf
  refine w_entry ha (Nat.le_of_ble_eq_true rfl) (fun ls hl => ?_)
  refine w_q (fun Q0 hQ => ?_)
  have lk22 := hts (.fieldLink RX7 22 "WhistleTunes" "history" "LWhistleTunes$History;") (by decide +kernel)
  have hinX7 : ∀ w ∈ wsX70, w ∈ wsX7_forget := by decide +kernel
  have lk10 := hts (.fieldLink RX7 10 "WhistleTunes" "school" "LWhistleTunes$School;") (by decide +kernel)
  have lk109 := hts (.fieldLink RX7 109 "WhistleTunes$School" "tuneLengths" "[I") (by decide +kernel)
  have hinX3 : ∀ w ∈ wsX30, w ∈ wsX7_forget := by decide +kernel
  have hl : lv_has ls 3 [(0, .ref (w 0)), (1, .int (nI mm))] := hl
  have hP : va_P G vwCl ([(w 0, .inr (7, [.ref (q 0), .ref (qz 0), .ref (h 0), .ref (t 0), .ref (gr 0), .ref (u 0), .ref (tr 0), .ref (oc 0), .int (Sw 0 8)])), (q 0, .inr (3, [.int (S 0 0), .int (S 0 1), .int (S 0 2), .int (S 0 3), .ref (q 5), .ref (q 6), .ref (q 7), .ref (q 8), .ref (q 9), .ref (q 10), .ref (q 11), .ref (q 12), .ref (q 13), .ref (q 14), .ref (q 15), .ref (q 16)])), (q 5, .inl (T 0, 2, .inl (S 5))), (q 6, .inl (T 0, 20, .inl (S 6))), (q 7, .inl (T 0, 160, .inl (S 7))), (q 8, .inl (T 0, 20, .inl (S 8))), (q 9, .inl (T 0, 20, .inl (S 9))), (q 10, .inl (T 0, 20, .inl (S 10))), (q 11, .inl (T 0, 6, .inl (S 11))), (q 12, .inl (T 0, 6, .inl (S 12))), (q 13, .inl (T 0, 6, .inl (S 13))), (q 14, .inl (T 0, 6, .inl (S 14))), (q 15, .inl (T 0, 6, .inl (S 15))), (q 16, .inl (T 0, 2, .inl (S 16)))] ++ oX1 T h qs Sh Hs) s.heap := hP
  have hD : va_D A ([(w 0, .inr (7, [.ref (q 0), .ref (qz 0), .ref (h 0), .ref (t 0), .ref (gr 0), .ref (u 0), .ref (tr 0), .ref (oc 0), .int (Sw 0 8)])), (q 0, .inr (3, [.int (S 0 0), .int (S 0 1), .int (S 0 2), .int (S 0 3), .ref (q 5), .ref (q 6), .ref (q 7), .ref (q 8), .ref (q 9), .ref (q 10), .ref (q 11), .ref (q 12), .ref (q 13), .ref (q 14), .ref (q 15), .ref (q 16)])), (q 5, .inl (T 0, 2, .inl (S 5))), (q 6, .inl (T 0, 20, .inl (S 6))), (q 7, .inl (T 0, 160, .inl (S 7))), (q 8, .inl (T 0, 20, .inl (S 8))), (q 9, .inl (T 0, 20, .inl (S 9))), (q 10, .inl (T 0, 20, .inl (S 10))), (q 11, .inl (T 0, 6, .inl (S 11))), (q 12, .inl (T 0, 6, .inl (S 12))), (q 13, .inl (T 0, 6, .inl (S 13))), (q 14, .inl (T 0, 6, .inl (S 14))), (q 15, .inl (T 0, 6, .inl (S 15))), (q 16, .inl (T 0, 2, .inl (S 16)))] ++ oX1 T h qs Sh Hs) := hD
  skip
  refine w_h (fun H locs hHe hLe => ?_)
  have hP : va_P G vwCl ([(w 0, .inr (7, [.ref (q 0), .ref (qz 0), .ref (h 0), .ref (t 0), .ref (gr 0), .ref (u 0), .ref (tr 0), .ref (oc 0), .int (Sw 0 8)])), (q 0, .inr (3, [.int (S 0 0), .int (S 0 1), .int (S 0 2), .int (S 0 3), .ref (q 5), .ref (q 6), .ref (q 7), .ref (q 8), .ref (q 9), .ref (q 10), .ref (q 11), .ref (q 12), .ref (q 13), .ref (q 14), .ref (q 15), .ref (q 16)])), (q 5, .inl (T 0, 2, .inl (S 5))), (q 6, .inl (T 0, 20, .inl (S 6))), (q 7, .inl (T 0, 160, .inl (S 7))), (q 8, .inl (T 0, 20, .inl (S 8))), (q 9, .inl (T 0, 20, .inl (S 9))), (q 10, .inl (T 0, 20, .inl (S 10))), (q 11, .inl (T 0, 6, .inl (S 11))), (q 12, .inl (T 0, 6, .inl (S 12))), (q 13, .inl (T 0, 6, .inl (S 13))), (q 14, .inl (T 0, 6, .inl (S 14))), (q 15, .inl (T 0, 6, .inl (S 15))), (q 16, .inl (T 0, 2, .inl (S 16)))] ++ oX1 T h qs Sh Hs) H := by rw [hHe]; exact hP
  have hS : va_S A s.heap H locs := by rw [hHe, hLe]; exact hS
  refine lv_iload_n hx hb dX7_forget_0 rfl (lv_at hl 1 rfl) ?_
  refine k_roS (As := [.int (nI mm)]) (rest := []) (wc := []) (d := 0) (v := bI (pBt (nI mm) 20)) cx (c_X7_isMessage l G T A (nI mm) ) (va_cwS 1 hts gX7_forget_X7_isMessage rfl rfl rfl (by decide +kernel) ⟨Nat.le_of_ble_eq_true rfl, Nat.le_of_ble_eq_true rfl⟩) (hP.sub (ws' := []) [] rfl) hK (hE.kept hS.2.1) rfl hl.1 rfl (Nat.le_of_ble_eq_true rfl) dX7_forget_1 ⟨Nat.le_of_ble_eq_true rfl, Nat.le_of_ble_eq_true rfl⟩ ?_
  refine b_if_ne (b := pBt (nI mm) 20) (tgt := 17) hx hb dX7_forget_4 (by decide) (fun c_1 => ?_) (fun c_2 => by exfalso; rw [pBt_T hm20 (by decide)] at c_2; cases c_2)
  refine lv_aload_n hx hb dX7_forget_17 rfl (lv_at hl 0 rfl) ?_
  refine va_get (D := G) (ci := 7) (v := .ref (h 0)) (C := RX7) (T := TX7) (N := 9) hx hb hts hinX7 hown hK hP 0 rfl rfl 2 (by decide) lk22 (fun _ h9 => h9) rfl dX7_forget_18 ?_
  refine lv_aload_n hx hb dX7_forget_21 rfl (lv_at hl 0 rfl) ?_
  refine va_get (D := G) (ci := 7) (v := .ref (q 0)) (C := RX7) (T := TX7) (N := 9) hx hb hts hinX7 hown hK hP 0 rfl rfl 0 (by decide) lk10 (fun _ h9 => h9) rfl dX7_forget_22 ?_
  refine k_rvV (As := [.ref (q 0)]) (rest := []) (wc := oX1 T h qs Sh Hs ++ oX3 T q S) (wr := oX7 w q qz h t gr u tr oc Sw) (w1 := oX1 T h qs (sc (sc Sh 1 (nI (hPo o n))) 2 (nI (hPn n))) (updS Hs (hPi o n) S) ++ oX3 T q S) (d := 2) (mc := 0) (ms := 0) (isC := [14, 15, 16, 17, 18, 19, 20, 21, 22, 23, 24, 25, 26, 27, 28, 29, 30, 31, 32, 33, 34, 35, 36, 37, 38, 39, 40, 41, 42, 43, 44, 45, 46, 47, 48, 49, 50, 51, 52, 53, 54, 55, 56, 57, 58, 59, 60, 61, 62, 63, 64, 65, 66, 67, 68, 69, 70, 71, 72, 73, 74, 75, 76, 77, 78, 79, 80, 81, 82, 83, 84, 85, 86, 87, 88, 89, 90, 91, 92, 93, 1, 2, 3, 4, 5, 6, 7, 8, 9, 10, 11, 12, 13]) (isR := [0]) cx (c_X1_push l G T H.size h qs Sh Hs q S o n (by first | assumption | rfl | omega) (by first | assumption | rfl | omega) (by omega) (by omega)) (cwV 1 hts gX7_forget_X1_push rfl rfl rfl (by decide +kernel) ⟨Nat.le_of_ble_eq_true rfl, Nat.le_of_ble_eq_true rfl⟩) ⟨hP, hD, hS, hA, hE, hK, rfl, rfl, rfl, rfl, by decide⟩ (va_recv hK hP (ci := 1) (q0 := 14) rfl rfl) rfl hl.1 rfl (Nat.le_of_ble_eq_true rfl) dX7_forget_25 ⟨Nat.le_of_ble_eq_true rfl, Nat.le_of_ble_eq_true rfl⟩ (fun H locs hP hD hS hz => ?_)
  have hP : va_P G vwCl ([(w 0, .inr (7, [.ref (q 0), .ref (qz 0), .ref (h 0), .ref (t 0), .ref (gr 0), .ref (u 0), .ref (tr 0), .ref (oc 0), .int (Sw 0 8)])), (q 0, .inr (3, [.int (S 0 0), .int (S 0 1), .int (S 0 2), .int (S 0 3), .ref (q 5), .ref (q 6), .ref (q 7), .ref (q 8), .ref (q 9), .ref (q 10), .ref (q 11), .ref (q 12), .ref (q 13), .ref (q 14), .ref (q 15), .ref (q 16)])), (q 5, .inl (T 0, 2, .inl (S 5))), (q 6, .inl (T 0, 20, .inl (S 6))), (q 7, .inl (T 0, 160, .inl (S 7))), (q 8, .inl (T 0, 20, .inl (S 8))), (q 9, .inl (T 0, 20, .inl (S 9))), (q 10, .inl (T 0, 20, .inl (S 10))), (q 11, .inl (T 0, 6, .inl (S 11))), (q 12, .inl (T 0, 6, .inl (S 12))), (q 13, .inl (T 0, 6, .inl (S 13))), (q 14, .inl (T 0, 6, .inl (S 14))), (q 15, .inl (T 0, 6, .inl (S 15))), (q 16, .inl (T 0, 2, .inl (S 16)))] ++ oX1 T h qs (sc (sc Sh 1 (nI (hPo o n))) 2 (nI (hPn n))) (updS Hs (hPi o n) S)) H := kN.sub (is := [0, 81, 82, 83, 84, 85, 86, 87, 88, 89, 90, 91, 92, 93, 1, 2, 3, 4, 5, 6, 7, 8, 9, 10, 11, 12, 13, 14, 15, 16, 17, 18, 19, 20, 21, 22, 23, 24, 25, 26, 27, 28, 29, 30, 31, 32, 33, 34, 35, 36, 37, 38, 39, 40, 41, 42, 43, 44, 45, 46, 47, 48, 49, 50, 51, 52, 53, 54, 55, 56, 57, 58, 59, 60, 61, 62, 63, 64, 65, 66, 67, 68, 69, 70, 71, 72, 73, 74, 75, 76, 77, 78, 79, 80]) hP rfl
  have hD : va_D A ([(w 0, .inr (7, [.ref (q 0), .ref (qz 0), .ref (h 0), .ref (t 0), .ref (gr 0), .ref (u 0), .ref (tr 0), .ref (oc 0), .int (Sw 0 8)])), (q 0, .inr (3, [.int (S 0 0), .int (S 0 1), .int (S 0 2), .int (S 0 3), .ref (q 5), .ref (q 6), .ref (q 7), .ref (q 8), .ref (q 9), .ref (q 10), .ref (q 11), .ref (q 12), .ref (q 13), .ref (q 14), .ref (q 15), .ref (q 16)])), (q 5, .inl (T 0, 2, .inl (S 5))), (q 6, .inl (T 0, 20, .inl (S 6))), (q 7, .inl (T 0, 160, .inl (S 7))), (q 8, .inl (T 0, 20, .inl (S 8))), (q 9, .inl (T 0, 20, .inl (S 9))), (q 10, .inl (T 0, 20, .inl (S 10))), (q 11, .inl (T 0, 6, .inl (S 11))), (q 12, .inl (T 0, 6, .inl (S 12))), (q 13, .inl (T 0, 6, .inl (S 13))), (q 14, .inl (T 0, 6, .inl (S 14))), (q 15, .inl (T 0, 6, .inl (S 15))), (q 16, .inl (T 0, 2, .inl (S 16)))] ++ oX1 T h qs (sc (sc Sh 1 (nI (hPo o n))) 2 (nI (hPn n))) (updS Hs (hPi o n) S)) := hD.sub [0, 81, 82, 83, 84, 85, 86, 87, 88, 89, 90, 91, 92, 93, 1, 2, 3, 4, 5, 6, 7, 8, 9, 10, 11, 12, 13, 14, 15, 16, 17, 18, 19, 20, 21, 22, 23, 24, 25, 26, 27, 28, 29, 30, 31, 32, 33, 34, 35, 36, 37, 38, 39, 40, 41, 42, 43, 44, 45, 46, 47, 48, 49, 50, 51, 52, 53, 54, 55, 56, 57, 58, 59, 60, 61, 62, 63, 64, 65, 66, 67, 68, 69, 70, 71, 72, 73, 74, 75, 76, 77, 78, 79, 80] rfl rfl
  refine lv_aload_n hx hb dX7_forget_28 rfl (lv_at hl 0 rfl) ?_
  refine va_get (D := G) (ci := 7) (v := .ref (q 0)) (C := RX7) (T := TX7) (N := 9) hx hb hts hinX7 hown hK hP 0 rfl rfl 0 (by decide) lk10 (fun _ h9 => h9) rfl dX7_forget_29 ?_
  refine va_get (D := G) (ci := 3) (v := .ref (q 6)) (C := RX3) (T := TX3) (N := 16) hx hb hts hinX3 hown hK hP 1 rfl rfl 5 (by decide) lk109 (fun _ h9 => h9) rfl dX7_forget_32 ?_
  refine lv_iload_n hx hb dX7_forget_35 rfl (lv_at hl 1 rfl) ?_
  refine n_iald hx hb hK hP 3 0 rfl rfl mm (by omega) (by decide) dX7_forget_36 ?_
  refine lv_istore_n (lv' := [(2, .int ((S 6) mm)), (0, .ref (w 0)), (1, .int (nI mm))]) hx hb dX7_forget_37 rfl hl (by decide) rfl (fun ls hl => ?_)
  refine lv_aload_n hx hb dX7_forget_38 rfl (lv_at hl 1 rfl) ?_
  refine va_get (D := G) (ci := 7) (v := .ref (q 0)) (C := RX7) (T := TX7) (N := 9) hx hb hts hinX7 hown hK hP 0 rfl rfl 0 (by decide) lk10 (fun _ h9 => h9) rfl dX7_forget_39 ?_
  refine va_get (D := G) (ci := 3) (v := .ref (q 6)) (C := RX3) (T := TX3) (N := 16) hx hb hts hinX3 hown hK hP 1 rfl rfl 5 (by decide) lk109 (fun _ h9 => h9) rfl dX7_forget_42 ?_
  refine lv_iload_n hx hb dX7_forget_45 rfl (lv_at hl 2 rfl) ?_
  refine n_iconst hx hb 0 dX7_forget_46 (by decide) ?_
  refine n_iast hx hb hK hP hD hS 3 0 rfl rfl mm (by omega) (by decide) dX7_forget_47 (fun H locs hP hD hS => ?_)
  have hP : va_P G vwCl ([(w 0, .inr (7, [.ref (q 0), .ref (qz 0), .ref (h 0), .ref (t 0), .ref (gr 0), .ref (u 0), .ref (tr 0), .ref (oc 0), .int (Sw 0 8)])), (q 0, .inr (3, [.int (S 0 0), .int (S 0 1), .int (S 0 2), .int (S 0 3), .ref (q 5), .ref (q 6), .ref (q 7), .ref (q 8), .ref (q 9), .ref (q 10), .ref (q 11), .ref (q 12), .ref (q 13), .ref (q 14), .ref (q 15), .ref (q 16)])), (q 5, .inl (T 0, 2, .inl (S 5))), (q 6, .inl (T 0, 20, .inl (upd (S 6) mm (nI 0)))), (q 7, .inl (T 0, 160, .inl (S 7))), (q 8, .inl (T 0, 20, .inl (S 8))), (q 9, .inl (T 0, 20, .inl (S 9))), (q 10, .inl (T 0, 20, .inl (S 10))), (q 11, .inl (T 0, 6, .inl (S 11))), (q 12, .inl (T 0, 6, .inl (S 12))), (q 13, .inl (T 0, 6, .inl (S 13))), (q 14, .inl (T 0, 6, .inl (S 14))), (q 15, .inl (T 0, 6, .inl (S 15))), (q 16, .inl (T 0, 2, .inl (S 16)))] ++ oX1 T h qs (sc (sc Sh 1 (nI (hPo o n))) 2 (nI (hPn n))) (updS Hs (hPi o n) S)) H := hP
  have hD : va_D A ([(w 0, .inr (7, [.ref (q 0), .ref (qz 0), .ref (h 0), .ref (t 0), .ref (gr 0), .ref (u 0), .ref (tr 0), .ref (oc 0), .int (Sw 0 8)])), (q 0, .inr (3, [.int (S 0 0), .int (S 0 1), .int (S 0 2), .int (S 0 3), .ref (q 5), .ref (q 6), .ref (q 7), .ref (q 8), .ref (q 9), .ref (q 10), .ref (q 11), .ref (q 12), .ref (q 13), .ref (q 14), .ref (q 15), .ref (q 16)])), (q 5, .inl (T 0, 2, .inl (S 5))), (q 6, .inl (T 0, 20, .inl (upd (S 6) mm (nI 0)))), (q 7, .inl (T 0, 160, .inl (S 7))), (q 8, .inl (T 0, 20, .inl (S 8))), (q 9, .inl (T 0, 20, .inl (S 9))), (q 10, .inl (T 0, 20, .inl (S 10))), (q 11, .inl (T 0, 6, .inl (S 11))), (q 12, .inl (T 0, 6, .inl (S 12))), (q 13, .inl (T 0, 6, .inl (S 13))), (q 14, .inl (T 0, 6, .inl (S 14))), (q 15, .inl (T 0, 6, .inl (S 15))), (q 16, .inl (T 0, 2, .inl (S 16)))] ++ oX1 T h qs (sc (sc Sh 1 (nI (hPo o n))) 2 (nI (hPn n))) (updS Hs (hPi o n) S)) := hD
  refine lv_iload_n hx hb dX7_forget_48 rfl (lv_at hl 0 rfl) ?_
  subst hQ
  have hP9 : va_P G vwCl (oX7 w q qz h t gr u tr oc Sw ++ oX3 T q (sa S 6 (upd (S 6) mm (nI 0))) ++ oX1 T h qs (sc (sc Sh 1 (nI (hPo o n))) 2 (nI (hPn n))) (updS Hs (hPi o n) S)) H := hP
  have hD9 : va_D A (oX7 w q qz h t gr u tr oc Sw ++ oX3 T q (sa S 6 (upd (S 6) mm (nI 0))) ++ oX1 T h qs (sc (sc Sh 1 (nI (hPo o n))) 2 (nI (hPn n))) (updS Hs (hPi o n) S)) := hD
  exact e_rwi hx hb hr hlocks hS rfl hP9 hD9 dX7_forget_49
set_option maxHeartbeats 4000000 in
set_option maxRecDepth 100000 in
theorem c_X7_forget_t (l : Launch) (hst : l.stackTraces = false) (G : va_G) (T : Nat → ClassId) (sz : Nat) (w : Nat → Nat) (q : Nat → Nat) (qz : Nat → Nat) (h : Nat → Nat) (t : Nat → Nat) (gr : Nat → Nat) (u : Nat → Nat) (tr : Nat → Nat) (oc : Nat → Nat) (Sw : Nat → Nat → Int32) (x : Int32) (hbx : pBt x 20 = false) : RX l yX7_forget wsX7_forget 7 G T sz (oX7 w q qz h t gr u tr oc Sw) [.ref (w 0), .int x] (.inr "java/lang/IndexOutOfBoundsException") (oX7 w q qz h t gr u tr oc Sw) := by
  refine vx_ofW (cc := cX7_forget) (maxL := 3) (ret := (some .int)) (by decide) rfl ?_
  intro p e s m args below meth c s₁ B hml htab hv
  obtain ⟨ha, ⟨hsz, hP, hK, hD0, hE0⟩, hC⟩ := hv
  have hx := B.exec
  have hb := B.bytes
  have hr := B.returns
  have hlocks := B.notSynchronized
  have hts := atoms_spec (ws := wsX7_forget) B.pre
  have hown : s.vm.findClass RX7 = some m.cls := findClass_of_methodNamed B.named
  have cx : CallFix p m c cX7_forget 3 s args wsX7_forget RX7 := ⟨hx, hb, hml, hown, hts⟩
  subst hsz
  have hD := hD0.self (sz := s.heap.size)
  generalize hAe : va_A (oX7 w q qz h t gr u tr oc Sw) s.heap.size = A at hD hE0 ⊢
  have hE : gE A s s.heap := hE0
  have hA : ∀ q : Nat, s.heap.size ≤ q → A q := fun q h => by rw [← hAe]; exact Or.inr h
  have hS : va_S A s.heap s.heap [] := va_S.rf
  refine w_entry ha (Nat.le_of_ble_eq_true rfl) (fun ls hl => ?_)
  refine w_q (fun Q0 hQ => ?_)
  have hl : lv_has ls 3 [(0, .ref (w 0)), (1, .int x)] := hl
  have hP : va_P G vwCl [(w 0, .inr (7, [.ref (q 0), .ref (qz 0), .ref (h 0), .ref (t 0), .ref (gr 0), .ref (u 0), .ref (tr 0), .ref (oc 0), .int (Sw 0 8)]))] s.heap := hP
  have hD : va_D A [(w 0, .inr (7, [.ref (q 0), .ref (qz 0), .ref (h 0), .ref (t 0), .ref (gr 0), .ref (u 0), .ref (tr 0), .ref (oc 0), .int (Sw 0 8)]))] := hD
  skip
  refine w_h (fun H locs hHe hLe => ?_)
  have hP : va_P G vwCl [(w 0, .inr (7, [.ref (q 0), .ref (qz 0), .ref (h 0), .ref (t 0), .ref (gr 0), .ref (u 0), .ref (tr 0), .ref (oc 0), .int (Sw 0 8)]))] H := by rw [hHe]; exact hP
  have hS : va_S A s.heap H locs := by rw [hHe, hLe]; exact hS
  refine lv_iload_n hx hb dX7_forget_0 rfl (lv_at hl 1 rfl) ?_
  refine k_roS (As := [.int x]) (rest := []) (wc := []) (d := 0) (v := bI (pBt x 20)) cx (c_X7_isMessage l G T A x ) (va_cwS 1 hts gX7_forget_X7_isMessage rfl rfl rfl (by decide +kernel) ⟨Nat.le_of_ble_eq_true rfl, Nat.le_of_ble_eq_true rfl⟩) (hP.sub (ws' := []) [] rfl) hK (hE.kept hS.2.1) rfl hl.1 rfl (Nat.le_of_ble_eq_true rfl) dX7_forget_1 ⟨Nat.le_of_ble_eq_true rfl, Nat.le_of_ble_eq_true rfl⟩ ?_
  refine b_if_ne (b := pBt x 20) (tgt := 17) hx hb dX7_forget_4 (by decide) (fun c_1 => by exfalso; rw [hbx] at c_1; cases c_1) (fun c_2 => ?_)
  subst hQ
  have hP9 : va_P G vwCl (oX7 w q qz h t gr u tr oc Sw) H := hP
  have hD9 : va_D A (oX7 w q qz h t gr u tr oc Sw) := hD
  exact e_thr hx hb hst (own := RX7) (cls := "java/lang/IndexOutOfBoundsException") "no such message" ["java/lang/RuntimeException", "java/lang/Exception"] (ik := 69) (is := 71) (ic := 73) hown (by decide +kernel) (by decide +kernel) (hts (.classLink RX7 69 "java/lang/IndexOutOfBoundsException") (by decide +kernel)) (hts (.initialized "java/lang/IndexOutOfBoundsException") (by decide +kernel)) (hE.2.1 (RX7, 71, "no such message") (by decide +kernel)) (xt_Z (is := 0) (ik := 0) (text := "") hC (by decide +kernel) (by decide +kernel) (fun w9 hw9 => hts w9 (List.mem_cons_of_mem _ (List.mem_append_right _ hw9)))) (by decide +kernel) hE hS (hl.1.trans hml.symm) dX7_forget_7 dX7_forget_10 dX7_forget_11 dX7_forget_13 dX7_forget_16 htab ⟨by decide, Nat.le_of_ble_eq_true rfl, Nat.le_of_ble_eq_true rfl, Nat.le_of_ble_eq_true rfl⟩ hlocks ⟨rfl, rfl⟩ rfl hP9 hD9
set_option maxHeartbeats 4000000 in
set_option maxRecDepth 100000 in
theorem c_X7_key (l : Launch) (G : va_G) (T : Nat → ClassId) (sz : Nat) (w : Nat → Nat) (q : Nat → Nat) (qz : Nat → Nat) (h : Nat → Nat) (t : Nat → Nat) (gr : Nat → Nat) (u : Nat → Nat) (tr : Nat → Nat) (oc : Nat → Nat) (Sw : Nat → Nat → Int32) (S : Nat → Nat → Int32) (Sh : Nat → Nat → Int32) (qs : Nat → Nat → Nat) (Hs : Nat → Nat → Nat → Int32) (o : Nat) (n : Nat) (kk : Nat) (ho : Sh 0 1 = nI o) (hn : Sh 0 2 = nI n) (ho6 : o < 6) (hn6 : n ≤ 6) (hk9 : kk < 7) : RWi l yX7_key wsX7_key 3 0 0 G T sz (oX7 w q qz h t gr u tr oc Sw ++ oX3 T q S ++ oX1 T h qs Sh Hs) [.ref (w 0), .int (nI kk)] (S 0 1) (oX7 w q qz h t gr u tr oc Sw ++ oX3 T q (sc S 1 (nI kk)) ++ oX1 T h qs (sc (sc Sh 1 (nI (hPo o n))) 2 (nI (hPn n))) (updS Hs (hPi o n) S)) := by
  refine Met.ofW (cc := cX7_key) (maxL := 3) (ret := (some .int)) (by decide) rfl ?_
  intro p e s m args below meth c s₁ B hml hv
  obtain ⟨ha, hsz, hP, hK, hD0, hE0⟩ := hv
  have hx := B.exec
  have hb := B.bytes
  have hr := B.returns
  have hlocks := B.notSynchronized
  have hts := atoms_spec (ws := wsX7_key) B.pre
  have hown : s.vm.findClass RX7 = some m.cls := findClass_of_methodNamed B.named
  have cx : CallFix p m c cX7_key 3 s args wsX7_key RX7 := ⟨hx, hb, hml, hown, hts⟩
  subst hsz
  have hD := hD0.self (sz := s.heap.size)
  generalize hAe : va_A (oX7 w q qz h t gr u tr oc Sw ++ oX3 T q S ++ oX1 T h qs Sh Hs) s.heap.size = A at hD hE0 ⊢
  have hE : gE A s s.heap := hE0
  have hA : ∀ q : Nat, s.heap.size ≤ q → A q := fun q h => by rw [← hAe]; exact Or.inr h
  have hS : va_S A s.heap s.heap [] := va_S.rf
  refine w_entry ha (Nat.le_of_ble_eq_true rfl) (fun ls hl => ?_)
  refine w_q (fun Q0 hQ => ?_)
  have lk22 := hts (.fieldLink RX7 22 "WhistleTunes" "history" "LWhistleTunes$History;") (by decide +kernel)
  have hinX7 : ∀ w ∈ wsX70, w ∈ wsX7_key := by decide +kernel
  have lk10 := hts (.fieldLink RX7 10 "WhistleTunes" "school" "LWhistleTunes$School;") (by decide +kernel)
  have lk118 := hts (.fieldLink RX7 118 "WhistleTunes$School" "keyOfNow" "I") (by decide +kernel)
  have hinX3 : ∀ w ∈ wsX30, w ∈ wsX7_key := by decide +kernel
  have hl : lv_has ls 3 [(0, .ref (w 0)), (1, .int (nI kk))] := hl
  have hP : va_P G vwCl ([(w 0, .inr (7, [.ref (q 0), .ref (qz 0), .ref (h 0), .ref (t 0), .ref (gr 0), .ref (u 0), .ref (tr 0), .ref (oc 0), .int (Sw 0 8)])), (q 0, .inr (3, [.int (S 0 0), .int (S 0 1), .int (S 0 2), .int (S 0 3), .ref (q 5), .ref (q 6), .ref (q 7), .ref (q 8), .ref (q 9), .ref (q 10), .ref (q 11), .ref (q 12), .ref (q 13), .ref (q 14), .ref (q 15), .ref (q 16)])), (q 5, .inl (T 0, 2, .inl (S 5))), (q 6, .inl (T 0, 20, .inl (S 6))), (q 7, .inl (T 0, 160, .inl (S 7))), (q 8, .inl (T 0, 20, .inl (S 8))), (q 9, .inl (T 0, 20, .inl (S 9))), (q 10, .inl (T 0, 20, .inl (S 10))), (q 11, .inl (T 0, 6, .inl (S 11))), (q 12, .inl (T 0, 6, .inl (S 12))), (q 13, .inl (T 0, 6, .inl (S 13))), (q 14, .inl (T 0, 6, .inl (S 14))), (q 15, .inl (T 0, 6, .inl (S 15))), (q 16, .inl (T 0, 2, .inl (S 16)))] ++ oX1 T h qs Sh Hs) s.heap := hP
  have hD : va_D A ([(w 0, .inr (7, [.ref (q 0), .ref (qz 0), .ref (h 0), .ref (t 0), .ref (gr 0), .ref (u 0), .ref (tr 0), .ref (oc 0), .int (Sw 0 8)])), (q 0, .inr (3, [.int (S 0 0), .int (S 0 1), .int (S 0 2), .int (S 0 3), .ref (q 5), .ref (q 6), .ref (q 7), .ref (q 8), .ref (q 9), .ref (q 10), .ref (q 11), .ref (q 12), .ref (q 13), .ref (q 14), .ref (q 15), .ref (q 16)])), (q 5, .inl (T 0, 2, .inl (S 5))), (q 6, .inl (T 0, 20, .inl (S 6))), (q 7, .inl (T 0, 160, .inl (S 7))), (q 8, .inl (T 0, 20, .inl (S 8))), (q 9, .inl (T 0, 20, .inl (S 9))), (q 10, .inl (T 0, 20, .inl (S 10))), (q 11, .inl (T 0, 6, .inl (S 11))), (q 12, .inl (T 0, 6, .inl (S 12))), (q 13, .inl (T 0, 6, .inl (S 13))), (q 14, .inl (T 0, 6, .inl (S 14))), (q 15, .inl (T 0, 6, .inl (S 15))), (q 16, .inl (T 0, 2, .inl (S 16)))] ++ oX1 T h qs Sh Hs) := hD
  skip
  refine w_h (fun H locs hHe hLe => ?_)
  have hP : va_P G vwCl ([(w 0, .inr (7, [.ref (q 0), .ref (qz 0), .ref (h 0), .ref (t 0), .ref (gr 0), .ref (u 0), .ref (tr 0), .ref (oc 0), .int (Sw 0 8)])), (q 0, .inr (3, [.int (S 0 0), .int (S 0 1), .int (S 0 2), .int (S 0 3), .ref (q 5), .ref (q 6), .ref (q 7), .ref (q 8), .ref (q 9), .ref (q 10), .ref (q 11), .ref (q 12), .ref (q 13), .ref (q 14), .ref (q 15), .ref (q 16)])), (q 5, .inl (T 0, 2, .inl (S 5))), (q 6, .inl (T 0, 20, .inl (S 6))), (q 7, .inl (T 0, 160, .inl (S 7))), (q 8, .inl (T 0, 20, .inl (S 8))), (q 9, .inl (T 0, 20, .inl (S 9))), (q 10, .inl (T 0, 20, .inl (S 10))), (q 11, .inl (T 0, 6, .inl (S 11))), (q 12, .inl (T 0, 6, .inl (S 12))), (q 13, .inl (T 0, 6, .inl (S 13))), (q 14, .inl (T 0, 6, .inl (S 14))), (q 15, .inl (T 0, 6, .inl (S 15))), (q 16, .inl (T 0, 2, .inl (S 16)))] ++ oX1 T h qs Sh Hs) H := by rw [hHe]; exact hP
  have hS : va_S A s.heap H locs := by rw [hHe, hLe]; exact hS
  refine lv_iload_n hx hb dX7_key_0 rfl (lv_at hl 1 rfl) ?_
  refine k_roS (As := [.int (nI kk)]) (rest := []) (wc := []) (d := 0) (v := bI (pBt (nI kk) 7)) cx (c_X7_isKey l G T A (nI kk) ) (va_cwS 1 hts gX7_key_X7_isKey rfl rfl rfl (by decide +kernel) ⟨Nat.le_of_ble_eq_true rfl, Nat.le_of_ble_eq_true rfl⟩) (hP.sub (ws' := []) [] rfl) hK (hE.kept hS.2.1) rfl hl.1 rfl (Nat.le_of_ble_eq_true rfl) dX7_key_1 ⟨Nat.le_of_ble_eq_true rfl, Nat.le_of_ble_eq_true rfl⟩ ?_
  refine b_if_ne (b := pBt (nI kk) 7) (tgt := 17) hx hb dX7_key_4 (by decide) (fun c_1 => ?_) (fun c_2 => by exfalso; rw [pBt_T hk9 (by decide)] at c_2; cases c_2)
  refine lv_aload_n hx hb dX7_key_17 rfl (lv_at hl 0 rfl) ?_
  refine va_get (D := G) (ci := 7) (v := .ref (h 0)) (C := RX7) (T := TX7) (N := 9) hx hb hts hinX7 hown hK hP 0 rfl rfl 2 (by decide) lk22 (fun _ h9 => h9) rfl dX7_key_18 ?_
  refine lv_aload_n hx hb dX7_key_21 rfl (lv_at hl 0 rfl) ?_
  refine va_get (D := G) (ci := 7) (v := .ref (q 0)) (C := RX7) (T := TX7) (N := 9) hx hb hts hinX7 hown hK hP 0 rfl rfl 0 (by decide) lk10 (fun _ h9 => h9) rfl dX7_key_22 ?_
  refine k_rvV (As := [.ref (q 0)]) (rest := []) (wc := oX1 T h qs Sh Hs ++ oX3 T q S) (wr := oX7 w q qz h t gr u tr oc Sw) (w1 := oX1 T h qs (sc (sc Sh 1 (nI (hPo o n))) 2 (nI (hPn n))) (updS Hs (hPi o n) S) ++ oX3 T q S) (d := 2) (mc := 0) (ms := 0) (isC := [14, 15, 16, 17, 18, 19, 20, 21, 22, 23, 24, 25, 26, 27, 28, 29, 30, 31, 32, 33, 34, 35, 36, 37, 38, 39, 40, 41, 42, 43, 44, 45, 46, 47, 48, 49, 50, 51, 52, 53, 54, 55, 56, 57, 58, 59, 60, 61, 62, 63, 64, 65, 66, 67, 68, 69, 70, 71, 72, 73, 74, 75, 76, 77, 78, 79, 80, 81, 82, 83, 84, 85, 86, 87, 88, 89, 90, 91, 92, 93, 1, 2, 3, 4, 5, 6, 7, 8, 9, 10, 11, 12, 13]) (isR := [0]) cx (c_X1_push l G T H.size h qs Sh Hs q S o n (by first | assumption | rfl | omega) (by first | assumption | rfl | omega) (by omega) (by omega)) (cwV 1 hts gX7_key_X1_push rfl rfl rfl (by decide +kernel) ⟨Nat.le_of_ble_eq_true rfl, Nat.le_of_ble_eq_true rfl⟩) ⟨hP, hD, hS, hA, hE, hK, rfl, rfl, rfl, rfl, by decide⟩ (va_recv hK hP (ci := 1) (q0 := 14) rfl rfl) rfl hl.1 rfl (Nat.le_of_ble_eq_true rfl) dX7_key_25 ⟨Nat.le_of_ble_eq_true rfl, Nat.le_of_ble_eq_true rfl⟩ (fun H locs hP hD hS hz => ?_)
  have hP : va_P G vwCl ([(w 0, .inr (7, [.ref (q 0), .ref (qz 0), .ref (h 0), .ref (t 0), .ref (gr 0), .ref (u 0), .ref (tr 0), .ref (oc 0), .int (Sw 0 8)])), (q 0, .inr (3, [.int (S 0 0), .int (S 0 1), .int (S 0 2), .int (S 0 3), .ref (q 5), .ref (q 6), .ref (q 7), .ref (q 8), .ref (q 9), .ref (q 10), .ref (q 11), .ref (q 12), .ref (q 13), .ref (q 14), .ref (q 15), .ref (q 16)])), (q 5, .inl (T 0, 2, .inl (S 5))), (q 6, .inl (T 0, 20, .inl (S 6))), (q 7, .inl (T 0, 160, .inl (S 7))), (q 8, .inl (T 0, 20, .inl (S 8))), (q 9, .inl (T 0, 20, .inl (S 9))), (q 10, .inl (T 0, 20, .inl (S 10))), (q 11, .inl (T 0, 6, .inl (S 11))), (q 12, .inl (T 0, 6, .inl (S 12))), (q 13, .inl (T 0, 6, .inl (S 13))), (q 14, .inl (T 0, 6, .inl (S 14))), (q 15, .inl (T 0, 6, .inl (S 15))), (q 16, .inl (T 0, 2, .inl (S 16)))] ++ oX1 T h qs (sc (sc Sh 1 (nI (hPo o n))) 2 (nI (hPn n))) (updS Hs (hPi o n) S)) H := kN.sub (is := [0, 81, 82, 83, 84, 85, 86, 87, 88, 89, 90, 91, 92, 93, 1, 2, 3, 4, 5, 6, 7, 8, 9, 10, 11, 12, 13, 14, 15, 16, 17, 18, 19, 20, 21, 22, 23, 24, 25, 26, 27, 28, 29, 30, 31, 32, 33, 34, 35, 36, 37, 38, 39, 40, 41, 42, 43, 44, 45, 46, 47, 48, 49, 50, 51, 52, 53, 54, 55, 56, 57, 58, 59, 60, 61, 62, 63, 64, 65, 66, 67, 68, 69, 70, 71, 72, 73, 74, 75, 76, 77, 78, 79, 80]) hP rfl
  have hD : va_D A ([(w 0, .inr (7, [.ref (q 0), .ref (qz 0), .ref (h 0), .ref (t 0), .ref (gr 0), .ref (u 0), .ref (tr 0), .ref (oc 0), .int (Sw 0 8)])), (q 0, .inr (3, [.int (S 0 0), .int (S 0 1), .int (S 0 2), .int (S 0 3), .ref (q 5), .ref (q 6), .ref (q 7), .ref (q 8), .ref (q 9), .ref (q 10), .ref (q 11), .ref (q 12), .ref (q 13), .ref (q 14), .ref (q 15), .ref (q 16)])), (q 5, .inl (T 0, 2, .inl (S 5))), (q 6, .inl (T 0, 20, .inl (S 6))), (q 7, .inl (T 0, 160, .inl (S 7))), (q 8, .inl (T 0, 20, .inl (S 8))), (q 9, .inl (T 0, 20, .inl (S 9))), (q 10, .inl (T 0, 20, .inl (S 10))), (q 11, .inl (T 0, 6, .inl (S 11))), (q 12, .inl (T 0, 6, .inl (S 12))), (q 13, .inl (T 0, 6, .inl (S 13))), (q 14, .inl (T 0, 6, .inl (S 14))), (q 15, .inl (T 0, 6, .inl (S 15))), (q 16, .inl (T 0, 2, .inl (S 16)))] ++ oX1 T h qs (sc (sc Sh 1 (nI (hPo o n))) 2 (nI (hPn n))) (updS Hs (hPi o n) S)) := hD.sub [0, 81, 82, 83, 84, 85, 86, 87, 88, 89, 90, 91, 92, 93, 1, 2, 3, 4, 5, 6, 7, 8, 9, 10, 11, 12, 13, 14, 15, 16, 17, 18, 19, 20, 21, 22, 23, 24, 25, 26, 27, 28, 29, 30, 31, 32, 33, 34, 35, 36, 37, 38, 39, 40, 41, 42, 43, 44, 45, 46, 47, 48, 49, 50, 51, 52, 53, 54, 55, 56, 57, 58, 59, 60, 61, 62, 63, 64, 65, 66, 67, 68, 69, 70, 71, 72, 73, 74, 75, 76, 77, 78, 79, 80] rfl rfl
  refine lv_aload_n hx hb dX7_key_28 rfl (lv_at hl 0 rfl) ?_
  refine va_get (D := G) (ci := 7) (v := .ref (q 0)) (C := RX7) (T := TX7) (N := 9) hx hb hts hinX7 hown hK hP 0 rfl rfl 0 (by decide) lk10 (fun _ h9 => h9) rfl dX7_key_29 ?_
  refine va_get (D := G) (ci := 3) (v := .int (S 0 1)) (C := RX3) (T := TX3) (N := 16) hx hb hts hinX3 hown hK hP 1 rfl rfl 1 (by decide) lk118 (fun _ h9 => h9) rfl dX7_key_32 ?_
  refine lv_istore_n (lv' := [(2, .int (S 0 1)), (0, .ref (w 0)), (1, .int (nI kk))]) hx hb dX7_key_35 rfl hl (by decide) rfl (fun ls hl => ?_)
  refine lv_aload_n hx hb dX7_key_36 rfl (lv_at hl 1 rfl) ?_
  refine va_get (D := G) (ci := 7) (v := .ref (q 0)) (C := RX7) (T := TX7) (N := 9) hx hb hts hinX7 hown hK hP 0 rfl rfl 0 (by decide) lk10 (fun _ h9 => h9) rfl dX7_key_37 ?_
  refine lv_iload_n hx hb dX7_key_40 rfl (lv_at hl 2 rfl) ?_
  refine va_put (D := G) (ci := 3) (v := .int (nI kk)) (ty := .int) (C := RX3) (T := TX3) (N := 16) hx hb hts hinX3 tyX3 tyX3_ok nmX3 hown hK hP hD hS 1 rfl rfl 1 (by decide) lk118 (fun _ h9 => h9) rfl (by decide +kernel) rfl rfl (Nat.le_of_ble_eq_true rfl) dX7_key_41 (fun H locs hP hD hS => ?_)
  have hP : va_P G vwCl ([(w 0, .inr (7, [.ref (q 0), .ref (qz 0), .ref (h 0), .ref (t 0), .ref (gr 0), .ref (u 0), .ref (tr 0), .ref (oc 0), .int (Sw 0 8)])), (q 0, .inr (3, [.int (S 0 0), .int (nI kk), .int (S 0 2), .int (S 0 3), .ref (q 5), .ref (q 6), .ref (q 7), .ref (q 8), .ref (q 9), .ref (q 10), .ref (q 11), .ref (q 12), .ref (q 13), .ref (q 14), .ref (q 15), .ref (q 16)])), (q 5, .inl (T 0, 2, .inl (S 5))), (q 6, .inl (T 0, 20, .inl (S 6))), (q 7, .inl (T 0, 160, .inl (S 7))), (q 8, .inl (T 0, 20, .inl (S 8))), (q 9, .inl (T 0, 20, .inl (S 9))), (q 10, .inl (T 0, 20, .inl (S 10))), (q 11, .inl (T 0, 6, .inl (S 11))), (q 12, .inl (T 0, 6, .inl (S 12))), (q 13, .inl (T 0, 6, .inl (S 13))), (q 14, .inl (T 0, 6, .inl (S 14))), (q 15, .inl (T 0, 6, .inl (S 15))), (q 16, .inl (T 0, 2, .inl (S 16)))] ++ oX1 T h qs (sc (sc Sh 1 (nI (hPo o n))) 2 (nI (hPn n))) (updS Hs (hPi o n) S)) H := hP
  have hD : va_D A ([(w 0, .inr (7, [.ref (q 0), .ref (qz 0), .ref (h 0), .ref (t 0), .ref (gr 0), .ref (u 0), .ref (tr 0), .ref (oc 0), .int (Sw 0 8)])), (q 0, .inr (3, [.int (S 0 0), .int (nI kk), .int (S 0 2), .int (S 0 3), .ref (q 5), .ref (q 6), .ref (q 7), .ref (q 8), .ref (q 9), .ref (q 10), .ref (q 11), .ref (q 12), .ref (q 13), .ref (q 14), .ref (q 15), .ref (q 16)])), (q 5, .inl (T 0, 2, .inl (S 5))), (q 6, .inl (T 0, 20, .inl (S 6))), (q 7, .inl (T 0, 160, .inl (S 7))), (q 8, .inl (T 0, 20, .inl (S 8))), (q 9, .inl (T 0, 20, .inl (S 9))), (q 10, .inl (T 0, 20, .inl (S 10))), (q 11, .inl (T 0, 6, .inl (S 11))), (q 12, .inl (T 0, 6, .inl (S 12))), (q 13, .inl (T 0, 6, .inl (S 13))), (q 14, .inl (T 0, 6, .inl (S 14))), (q 15, .inl (T 0, 6, .inl (S 15))), (q 16, .inl (T 0, 2, .inl (S 16)))] ++ oX1 T h qs (sc (sc Sh 1 (nI (hPo o n))) 2 (nI (hPn n))) (updS Hs (hPi o n) S)) := hD
  refine lv_iload_n hx hb dX7_key_44 rfl (lv_at hl 0 rfl) ?_
  subst hQ
  have hP9 : va_P G vwCl (oX7 w q qz h t gr u tr oc Sw ++ oX3 T q (sc S 1 (nI kk)) ++ oX1 T h qs (sc (sc Sh 1 (nI (hPo o n))) 2 (nI (hPn n))) (updS Hs (hPi o n) S)) H := hP
  have hD9 : va_D A (oX7 w q qz h t gr u tr oc Sw ++ oX3 T q (sc S 1 (nI kk)) ++ oX1 T h qs (sc (sc Sh 1 (nI (hPo o n))) 2 (nI (hPn n))) (updS Hs (hPi o n) S)) := hD
  exact e_rwi hx hb hr hlocks hS rfl hP9 hD9 dX7_key_45
set_option maxHeartbeats 4000000 in
set_option maxRecDepth 100000 in
theorem c_X7_key_t (l : Launch) (hst : l.stackTraces = false) (G : va_G) (T : Nat → ClassId) (sz : Nat) (w : Nat → Nat) (q : Nat → Nat) (qz : Nat → Nat) (h : Nat → Nat) (t : Nat → Nat) (gr : Nat → Nat) (u : Nat → Nat) (tr : Nat → Nat) (oc : Nat → Nat) (Sw : Nat → Nat → Int32) (x : Int32) (hbx : pBt x 7 = false) : RX l yX7_key wsX7_key 7 G T sz (oX7 w q qz h t gr u tr oc Sw) [.ref (w 0), .int x] (.inr "java/lang/IllegalArgumentException") (oX7 w q qz h t gr u tr oc Sw) := by
  refine vx_ofW (cc := cX7_key) (maxL := 3) (ret := (some .int)) (by decide) rfl ?_
  intro p e s m args below meth c s₁ B hml htab hv
  obtain ⟨ha, ⟨hsz, hP, hK, hD0, hE0⟩, hC⟩ := hv
  have hx := B.exec
  have hb := B.bytes
  have hr := B.returns
  have hlocks := B.notSynchronized
  have hts := atoms_spec (ws := wsX7_key) B.pre
  have hown : s.vm.findClass RX7 = some m.cls := findClass_of_methodNamed B.named
  have cx : CallFix p m c cX7_key 3 s args wsX7_key RX7 := ⟨hx, hb, hml, hown, hts⟩
  subst hsz
  have hD := hD0.self (sz := s.heap.size)
  generalize hAe : va_A (oX7 w q qz h t gr u tr oc Sw) s.heap.size = A at hD hE0 ⊢
  have hE : gE A s s.heap := hE0
  have hA : ∀ q : Nat, s.heap.size ≤ q → A q := fun q h => by rw [← hAe]; exact Or.inr h
  have hS : va_S A s.heap s.heap [] := va_S.rf
  refine w_entry ha (Nat.le_of_ble_eq_true rfl) (fun ls hl => ?_)
  refine w_q (fun Q0 hQ => ?_)
  have hl : lv_has ls 3 [(0, .ref (w 0)), (1, .int x)] := hl
  have hP : va_P G vwCl [(w 0, .inr (7, [.ref (q 0), .ref (qz 0), .ref (h 0), .ref (t 0), .ref (gr 0), .ref (u 0), .ref (tr 0), .ref (oc 0), .int (Sw 0 8)]))] s.heap := hP
  have hD : va_D A [(w 0, .inr (7, [.ref (q 0), .ref (qz 0), .ref (h 0), .ref (t 0), .ref (gr 0), .ref (u 0), .ref (tr 0), .ref (oc 0), .int (Sw 0 8)]))] := hD
  skip
  refine w_h (fun H locs hHe hLe => ?_)
  have hP : va_P G vwCl [(w 0, .inr (7, [.ref (q 0), .ref (qz 0), .ref (h 0), .ref (t 0), .ref (gr 0), .ref (u 0), .ref (tr 0), .ref (oc 0), .int (Sw 0 8)]))] H := by rw [hHe]; exact hP
  have hS : va_S A s.heap H locs := by rw [hHe, hLe]; exact hS
  refine lv_iload_n hx hb dX7_key_0 rfl (lv_at hl 1 rfl) ?_
  refine k_roS (As := [.int x]) (rest := []) (wc := []) (d := 0) (v := bI (pBt x 7)) cx (c_X7_isKey l G T A x ) (va_cwS 1 hts gX7_key_X7_isKey rfl rfl rfl (by decide +kernel) ⟨Nat.le_of_ble_eq_true rfl, Nat.le_of_ble_eq_true rfl⟩) (hP.sub (ws' := []) [] rfl) hK (hE.kept hS.2.1) rfl hl.1 rfl (Nat.le_of_ble_eq_true rfl) dX7_key_1 ⟨Nat.le_of_ble_eq_true rfl, Nat.le_of_ble_eq_true rfl⟩ ?_
  refine b_if_ne (b := pBt x 7) (tgt := 17) hx hb dX7_key_4 (by decide) (fun c_1 => by exfalso; rw [hbx] at c_1; cases c_1) (fun c_2 => ?_)
  subst hQ
  have hP9 : va_P G vwCl (oX7 w q qz h t gr u tr oc Sw) H := hP
  have hD9 : va_D A (oX7 w q qz h t gr u tr oc Sw) := hD
  exact e_thr hx hb hst (own := RX7) (cls := "java/lang/IllegalArgumentException") "no such key" ["java/lang/RuntimeException", "java/lang/Exception"] (ik := 80) (is := 116) (ic := 84) hown (by decide +kernel) (by decide +kernel) (hts (.classLink RX7 80 "java/lang/IllegalArgumentException") (by decide +kernel)) (hts (.initialized "java/lang/IllegalArgumentException") (by decide +kernel)) (hE.2.1 (RX7, 116, "no such key") (by decide +kernel)) (xt_Z (is := 0) (ik := 0) (text := "") hC (by decide +kernel) (by decide +kernel) (fun w9 hw9 => hts w9 (List.mem_cons_of_mem _ (List.mem_append_right _ hw9)))) (by decide +kernel) hE hS (hl.1.trans hml.symm) dX7_key_7 dX7_key_10 dX7_key_11 dX7_key_13 dX7_key_16 htab ⟨by decide, Nat.le_of_ble_eq_true rfl, Nat.le_of_ble_eq_true rfl, Nat.le_of_ble_eq_true rfl⟩ hlocks ⟨rfl, rfl⟩ rfl hP9 hD9
set_option maxHeartbeats 4000000 in
set_option maxRecDepth 100000 in
theorem c_X7_tell (l : Launch) (G : va_G) (T : Nat → ClassId) (sz : Nat) (w : Nat → Nat) (q : Nat → Nat) (qz : Nat → Nat) (h : Nat → Nat) (t : Nat → Nat) (gr : Nat → Nat) (u : Nat → Nat) (tr : Nat → Nat) (oc : Nat → Nat) (Sw : Nat → Nat → Int32) (S : Nat → Nat → Int32) (Sh : Nat → Nat → Int32) (qs : Nat → Nat → Nat) (Hs : Nat → Nat → Nat → Int32) (o : Nat) (n : Nat) (rr : Nat) (ho : Sh 0 1 = nI o) (hn : Sh 0 2 = nI n) (ho6 : o < 6) (hn6 : n ≤ 6) (hr6 : rr < 6) : RWi l yX7_tell wsX7_tell 3 0 0 G T sz (oX7 w q qz h t gr u tr oc Sw ++ oX3 T q S ++ oX1 T h qs Sh Hs) [.ref (w 0), .int (nI rr)] (S 11 rr) (oX7 w q qz h t gr u tr oc Sw ++ oX3 T q (sa S 11 (upd (S 11) rr (S 0 1))) ++ oX1 T h qs (sc (sc Sh 1 (nI (hPo o n))) 2 (nI (hPn n))) (updS Hs (hPi o n) S)) := by
  refine Met.ofW (cc := cX7_tell) (maxL := 3) (ret := (some .int)) (by decide) rfl ?_
  intro p e s m args below meth c s₁ B hml hv
  obtain ⟨ha, hsz, hP, hK, hD0, hE0⟩ := hv
  have hx := B.exec
  have hb := B.bytes
  have hr := B.returns
  have hlocks := B.notSynchronized
  have hts := atoms_spec (ws := wsX7_tell) B.pre
  have hown : s.vm.findClass RX7 = some m.cls := findClass_of_methodNamed B.named
  have cx : CallFix p m c cX7_tell 3 s args wsX7_tell RX7 := ⟨hx, hb, hml, hown, hts⟩
  subst hsz
  have hD := hD0.self (sz := s.heap.size)
  generalize hAe : va_A (oX7 w q qz h t gr u tr oc Sw ++ oX3 T q S ++ oX1 T h qs Sh Hs) s.heap.size = A at hD hE0 ⊢
  have hE : gE A s s.heap := hE0
  have hA : ∀ q : Nat, s.heap.size ≤ q → A q := fun q h => by rw [← hAe]; exact Or.inr h
  have hS : va_S A s.heap s.heap [] := va_S.rf
  refine w_entry ha (Nat.le_of_ble_eq_true rfl) (fun ls hl => ?_)
  refine w_q (fun Q0 hQ => ?_)
  have lk22 := hts (.fieldLink RX7 22 "WhistleTunes" "history" "LWhistleTunes$History;") (by decide +kernel)
  have hinX7 : ∀ w ∈ wsX70, w ∈ wsX7_tell := by decide +kernel
  have lk10 := hts (.fieldLink RX7 10 "WhistleTunes" "school" "LWhistleTunes$School;") (by decide +kernel)
  have lk126 := hts (.fieldLink RX7 126 "WhistleTunes$School" "roomKeys" "[I") (by decide +kernel)
  have hinX3 : ∀ w ∈ wsX30, w ∈ wsX7_tell := by decide +kernel
  have lk118 := hts (.fieldLink RX7 118 "WhistleTunes$School" "keyOfNow" "I") (by decide +kernel)
  have hl : lv_has ls 3 [(0, .ref (w 0)), (1, .int (nI rr))] := hl
  have hP : va_P G vwCl ([(w 0, .inr (7, [.ref (q 0), .ref (qz 0), .ref (h 0), .ref (t 0), .ref (gr 0), .ref (u 0), .ref (tr 0), .ref (oc 0), .int (Sw 0 8)])), (q 0, .inr (3, [.int (S 0 0), .int (S 0 1), .int (S 0 2), .int (S 0 3), .ref (q 5), .ref (q 6), .ref (q 7), .ref (q 8), .ref (q 9), .ref (q 10), .ref (q 11), .ref (q 12), .ref (q 13), .ref (q 14), .ref (q 15), .ref (q 16)])), (q 5, .inl (T 0, 2, .inl (S 5))), (q 6, .inl (T 0, 20, .inl (S 6))), (q 7, .inl (T 0, 160, .inl (S 7))), (q 8, .inl (T 0, 20, .inl (S 8))), (q 9, .inl (T 0, 20, .inl (S 9))), (q 10, .inl (T 0, 20, .inl (S 10))), (q 11, .inl (T 0, 6, .inl (S 11))), (q 12, .inl (T 0, 6, .inl (S 12))), (q 13, .inl (T 0, 6, .inl (S 13))), (q 14, .inl (T 0, 6, .inl (S 14))), (q 15, .inl (T 0, 6, .inl (S 15))), (q 16, .inl (T 0, 2, .inl (S 16)))] ++ oX1 T h qs Sh Hs) s.heap := hP
  have hD : va_D A ([(w 0, .inr (7, [.ref (q 0), .ref (qz 0), .ref (h 0), .ref (t 0), .ref (gr 0), .ref (u 0), .ref (tr 0), .ref (oc 0), .int (Sw 0 8)])), (q 0, .inr (3, [.int (S 0 0), .int (S 0 1), .int (S 0 2), .int (S 0 3), .ref (q 5), .ref (q 6), .ref (q 7), .ref (q 8), .ref (q 9), .ref (q 10), .ref (q 11), .ref (q 12), .ref (q 13), .ref (q 14), .ref (q 15), .ref (q 16)])), (q 5, .inl (T 0, 2, .inl (S 5))), (q 6, .inl (T 0, 20, .inl (S 6))), (q 7, .inl (T 0, 160, .inl (S 7))), (q 8, .inl (T 0, 20, .inl (S 8))), (q 9, .inl (T 0, 20, .inl (S 9))), (q 10, .inl (T 0, 20, .inl (S 10))), (q 11, .inl (T 0, 6, .inl (S 11))), (q 12, .inl (T 0, 6, .inl (S 12))), (q 13, .inl (T 0, 6, .inl (S 13))), (q 14, .inl (T 0, 6, .inl (S 14))), (q 15, .inl (T 0, 6, .inl (S 15))), (q 16, .inl (T 0, 2, .inl (S 16)))] ++ oX1 T h qs Sh Hs) := hD
  skip
  refine w_h (fun H locs hHe hLe => ?_)
  have hP : va_P G vwCl ([(w 0, .inr (7, [.ref (q 0), .ref (qz 0), .ref (h 0), .ref (t 0), .ref (gr 0), .ref (u 0), .ref (tr 0), .ref (oc 0), .int (Sw 0 8)])), (q 0, .inr (3, [.int (S 0 0), .int (S 0 1), .int (S 0 2), .int (S 0 3), .ref (q 5), .ref (q 6), .ref (q 7), .ref (q 8), .ref (q 9), .ref (q 10), .ref (q 11), .ref (q 12), .ref (q 13), .ref (q 14), .ref (q 15), .ref (q 16)])), (q 5, .inl (T 0, 2, .inl (S 5))), (q 6, .inl (T 0, 20, .inl (S 6))), (q 7, .inl (T 0, 160, .inl (S 7))), (q 8, .inl (T 0, 20, .inl (S 8))), (q 9, .inl (T 0, 20, .inl (S 9))), (q 10, .inl (T 0, 20, .inl (S 10))), (q 11, .inl (T 0, 6, .inl (S 11))), (q 12, .inl (T 0, 6, .inl (S 12))), (q 13, .inl (T 0, 6, .inl (S 13))), (q 14, .inl (T 0, 6, .inl (S 14))), (q 15, .inl (T 0, 6, .inl (S 15))), (q 16, .inl (T 0, 2, .inl (S 16)))] ++ oX1 T h qs Sh Hs) H := by rw [hHe]; exact hP
  have hS : va_S A s.heap H locs := by rw [hHe, hLe]; exact hS
  refine lv_iload_n hx hb dX7_tell_0 rfl (lv_at hl 1 rfl) ?_
  refine k_roS (As := [.int (nI rr)]) (rest := []) (wc := []) (d := 0) (v := bI (pBt (nI rr) 6)) cx (c_X7_isRoom l G T A (nI rr) ) (va_cwS 1 hts gX7_tell_X7_isRoom rfl rfl rfl (by decide +kernel) ⟨Nat.le_of_ble_eq_true rfl, Nat.le_of_ble_eq_true rfl⟩) (hP.sub (ws' := []) [] rfl) hK (hE.kept hS.2.1) rfl hl.1 rfl (Nat.le_of_ble_eq_true rfl) dX7_tell_1 ⟨Nat.le_of_ble_eq_true rfl, Nat.le_of_ble_eq_true rfl⟩ ?_
  refine b_if_ne (b := pBt (nI rr) 6) (tgt := 17) hx hb dX7_tell_4 (by decide) (fun c_1 => ?_) (fun c_2 => by exfalso; rw [pBt_T hr6 (by decide)] at c_2; cases c_2)
  refine lv_aload_n hx hb dX7_tell_17 rfl (lv_at hl 0 rfl) ?_
  refine va_get (D := G) (ci := 7) (v := .ref (h 0)) (C := RX7) (T := TX7) (N := 9) hx hb hts hinX7 hown hK hP 0 rfl rfl 2 (by decide) lk22 (fun _ h9 => h9) rfl dX7_tell_18 ?_
  refine lv_aload_n hx hb dX7_tell_21 rfl (lv_at hl 0 rfl) ?_
  refine va_get (D := G) (ci := 7) (v := .ref (q 0)) (C := RX7) (T := TX7) (N := 9) hx hb hts hinX7 hown hK hP 0 rfl rfl 0 (by decide) lk10 (fun _ h9 => h9) rfl dX7_tell_22 ?_
  refine k_rvV (As := [.ref (q 0)]) (rest := []) (wc := oX1 T h qs Sh Hs ++ oX3 T q S) (wr := oX7 w q qz h t gr u tr oc Sw) (w1 := oX1 T h qs (sc (sc Sh 1 (nI (hPo o n))) 2 (nI (hPn n))) (updS Hs (hPi o n) S) ++ oX3 T q S) (d := 2) (mc := 0) (ms := 0) (isC := [14, 15, 16, 17, 18, 19, 20, 21, 22, 23, 24, 25, 26, 27, 28, 29, 30, 31, 32, 33, 34, 35, 36, 37, 38, 39, 40, 41, 42, 43, 44, 45, 46, 47, 48, 49, 50, 51, 52, 53, 54, 55, 56, 57, 58, 59, 60, 61, 62, 63, 64, 65, 66, 67, 68, 69, 70, 71, 72, 73, 74, 75, 76, 77, 78, 79, 80, 81, 82, 83, 84, 85, 86, 87, 88, 89, 90, 91, 92, 93, 1, 2, 3, 4, 5, 6, 7, 8, 9, 10, 11, 12, 13]) (isR := [0]) cx (c_X1_push l G T H.size h qs Sh Hs q S o n (by first | assumption | rfl | omega) (by first | assumption | rfl | omega) (by omega) (by omega)) (cwV 1 hts gX7_tell_X1_push rfl rfl rfl (by decide +kernel) ⟨Nat.le_of_ble_eq_true rfl, Nat.le_of_ble_eq_true rfl⟩) ⟨hP, hD, hS, hA, hE, hK, rfl, rfl, rfl, rfl, by decide⟩ (va_recv hK hP (ci := 1) (q0 := 14) rfl rfl) rfl hl.1 rfl (Nat.le_of_ble_eq_true rfl) dX7_tell_25 ⟨Nat.le_of_ble_eq_true rfl, Nat.le_of_ble_eq_true rfl⟩ (fun H locs hP hD hS hz => ?_)
  have hP : va_P G vwCl ([(w 0, .inr (7, [.ref (q 0), .ref (qz 0), .ref (h 0), .ref (t 0), .ref (gr 0), .ref (u 0), .ref (tr 0), .ref (oc 0), .int (Sw 0 8)])), (q 0, .inr (3, [.int (S 0 0), .int (S 0 1), .int (S 0 2), .int (S 0 3), .ref (q 5), .ref (q 6), .ref (q 7), .ref (q 8), .ref (q 9), .ref (q 10), .ref (q 11), .ref (q 12), .ref (q 13), .ref (q 14), .ref (q 15), .ref (q 16)])), (q 5, .inl (T 0, 2, .inl (S 5))), (q 6, .inl (T 0, 20, .inl (S 6))), (q 7, .inl (T 0, 160, .inl (S 7))), (q 8, .inl (T 0, 20, .inl (S 8))), (q 9, .inl (T 0, 20, .inl (S 9))), (q 10, .inl (T 0, 20, .inl (S 10))), (q 11, .inl (T 0, 6, .inl (S 11))), (q 12, .inl (T 0, 6, .inl (S 12))), (q 13, .inl (T 0, 6, .inl (S 13))), (q 14, .inl (T 0, 6, .inl (S 14))), (q 15, .inl (T 0, 6, .inl (S 15))), (q 16, .inl (T 0, 2, .inl (S 16)))] ++ oX1 T h qs (sc (sc Sh 1 (nI (hPo o n))) 2 (nI (hPn n))) (updS Hs (hPi o n) S)) H := kN.sub (is := [0, 81, 82, 83, 84, 85, 86, 87, 88, 89, 90, 91, 92, 93, 1, 2, 3, 4, 5, 6, 7, 8, 9, 10, 11, 12, 13, 14, 15, 16, 17, 18, 19, 20, 21, 22, 23, 24, 25, 26, 27, 28, 29, 30, 31, 32, 33, 34, 35, 36, 37, 38, 39, 40, 41, 42, 43, 44, 45, 46, 47, 48, 49, 50, 51, 52, 53, 54, 55, 56, 57, 58, 59, 60, 61, 62, 63, 64, 65, 66, 67, 68, 69, 70, 71, 72, 73, 74, 75, 76, 77, 78, 79, 80]) hP rfl
  have hD : va_D A ([(w 0, .inr (7, [.ref (q 0), .ref (qz 0), .ref (h 0), .ref (t 0), .ref (gr 0), .ref (u 0), .ref (tr 0), .ref (oc 0), .int (Sw 0 8)])), (q 0, .inr (3, [.int (S 0 0), .int (S 0 1), .int (S 0 2), .int (S 0 3), .ref (q 5), .ref (q 6), .ref (q 7), .ref (q 8), .ref (q 9), .ref (q 10), .ref (q 11), .ref (q 12), .ref (q 13), .ref (q 14), .ref (q 15), .ref (q 16)])), (q 5, .inl (T 0, 2, .inl (S 5))), (q 6, .inl (T 0, 20, .inl (S 6))), (q 7, .inl (T 0, 160, .inl (S 7))), (q 8, .inl (T 0, 20, .inl (S 8))), (q 9, .inl (T 0, 20, .inl (S 9))), (q 10, .inl (T 0, 20, .inl (S 10))), (q 11, .inl (T 0, 6, .inl (S 11))), (q 12, .inl (T 0, 6, .inl (S 12))), (q 13, .inl (T 0, 6, .inl (S 13))), (q 14, .inl (T 0, 6, .inl (S 14))), (q 15, .inl (T 0, 6, .inl (S 15))), (q 16, .inl (T 0, 2, .inl (S 16)))] ++ oX1 T h qs (sc (sc Sh 1 (nI (hPo o n))) 2 (nI (hPn n))) (updS Hs (hPi o n) S)) := hD.sub [0, 81, 82, 83, 84, 85, 86, 87, 88, 89, 90, 91, 92, 93, 1, 2, 3, 4, 5, 6, 7, 8, 9, 10, 11, 12, 13, 14, 15, 16, 17, 18, 19, 20, 21, 22, 23, 24, 25, 26, 27, 28, 29, 30, 31, 32, 33, 34, 35, 36, 37, 38, 39, 40, 41, 42, 43, 44, 45, 46, 47, 48, 49, 50, 51, 52, 53, 54, 55, 56, 57, 58, 59, 60, 61, 62, 63, 64, 65, 66, 67, 68, 69, 70, 71, 72, 73, 74, 75, 76, 77, 78, 79, 80] rfl rfl
  refine lv_aload_n hx hb dX7_tell_28 rfl (lv_at hl 0 rfl) ?_
  refine va_get (D := G) (ci := 7) (v := .ref (q 0)) (C := RX7) (T := TX7) (N := 9) hx hb hts hinX7 hown hK hP 0 rfl rfl 0 (by decide) lk10 (fun _ h9 => h9) rfl dX7_tell_29 ?_
  refine va_get (D := G) (ci := 3) (v := .ref (q 11)) (C := RX3) (T := TX3) (N := 16) hx hb hts hinX3 hown hK hP 1 rfl rfl 10 (by decide) lk126 (fun _ h9 => h9) rfl dX7_tell_32 ?_
  refine lv_iload_n hx hb dX7_tell_35 rfl (lv_at hl 1 rfl) ?_
  refine n_iald hx hb hK hP 8 0 rfl rfl rr (by omega) (by decide) dX7_tell_36 ?_
  refine lv_istore_n (lv' := [(2, .int ((S 11) rr)), (0, .ref (w 0)), (1, .int (nI rr))]) hx hb dX7_tell_37 rfl hl (by decide) rfl (fun ls hl => ?_)
  refine lv_aload_n hx hb dX7_tell_38 rfl (lv_at hl 1 rfl) ?_
  refine va_get (D := G) (ci := 7) (v := .ref (q 0)) (C := RX7) (T := TX7) (N := 9) hx hb hts hinX7 hown hK hP 0 rfl rfl 0 (by decide) lk10 (fun _ h9 => h9) rfl dX7_tell_39 ?_
  refine va_get (D := G) (ci := 3) (v := .ref (q 11)) (C := RX3) (T := TX3) (N := 16) hx hb hts hinX3 hown hK hP 1 rfl rfl 10 (by decide) lk126 (fun _ h9 => h9) rfl dX7_tell_42 ?_
  refine lv_iload_n hx hb dX7_tell_45 rfl (lv_at hl 2 rfl) ?_
  refine lv_aload_n hx hb dX7_tell_46 rfl (lv_at hl 1 rfl) ?_
  refine va_get (D := G) (ci := 7) (v := .ref (q 0)) (C := RX7) (T := TX7) (N := 9) hx hb hts hinX7 hown hK hP 0 rfl rfl 0 (by decide) lk10 (fun _ h9 => h9) rfl dX7_tell_47 ?_
  refine va_get (D := G) (ci := 3) (v := .int (S 0 1)) (C := RX3) (T := TX3) (N := 16) hx hb hts hinX3 hown hK hP 1 rfl rfl 1 (by decide) lk118 (fun _ h9 => h9) rfl dX7_tell_50 ?_
  refine n_iast hx hb hK hP hD hS 8 0 rfl rfl rr (by omega) (by decide) dX7_tell_53 (fun H locs hP hD hS => ?_)
  have hP : va_P G vwCl ([(w 0, .inr (7, [.ref (q 0), .ref (qz 0), .ref (h 0), .ref (t 0), .ref (gr 0), .ref (u 0), .ref (tr 0), .ref (oc 0), .int (Sw 0 8)])), (q 0, .inr (3, [.int (S 0 0), .int (S 0 1), .int (S 0 2), .int (S 0 3), .ref (q 5), .ref (q 6), .ref (q 7), .ref (q 8), .ref (q 9), .ref (q 10), .ref (q 11), .ref (q 12), .ref (q 13), .ref (q 14), .ref (q 15), .ref (q 16)])), (q 5, .inl (T 0, 2, .inl (S 5))), (q 6, .inl (T 0, 20, .inl (S 6))), (q 7, .inl (T 0, 160, .inl (S 7))), (q 8, .inl (T 0, 20, .inl (S 8))), (q 9, .inl (T 0, 20, .inl (S 9))), (q 10, .inl (T 0, 20, .inl (S 10))), (q 11, .inl (T 0, 6, .inl (upd (S 11) rr (S 0 1)))), (q 12, .inl (T 0, 6, .inl (S 12))), (q 13, .inl (T 0, 6, .inl (S 13))), (q 14, .inl (T 0, 6, .inl (S 14))), (q 15, .inl (T 0, 6, .inl (S 15))), (q 16, .inl (T 0, 2, .inl (S 16)))] ++ oX1 T h qs (sc (sc Sh 1 (nI (hPo o n))) 2 (nI (hPn n))) (updS Hs (hPi o n) S)) H := hP
  have hD : va_D A ([(w 0, .inr (7, [.ref (q 0), .ref (qz 0), .ref (h 0), .ref (t 0), .ref (gr 0), .ref (u 0), .ref (tr 0), .ref (oc 0), .int (Sw 0 8)])), (q 0, .inr (3, [.int (S 0 0), .int (S 0 1), .int (S 0 2), .int (S 0 3), .ref (q 5), .ref (q 6), .ref (q 7), .ref (q 8), .ref (q 9), .ref (q 10), .ref (q 11), .ref (q 12), .ref (q 13), .ref (q 14), .ref (q 15), .ref (q 16)])), (q 5, .inl (T 0, 2, .inl (S 5))), (q 6, .inl (T 0, 20, .inl (S 6))), (q 7, .inl (T 0, 160, .inl (S 7))), (q 8, .inl (T 0, 20, .inl (S 8))), (q 9, .inl (T 0, 20, .inl (S 9))), (q 10, .inl (T 0, 20, .inl (S 10))), (q 11, .inl (T 0, 6, .inl (upd (S 11) rr (S 0 1)))), (q 12, .inl (T 0, 6, .inl (S 12))), (q 13, .inl (T 0, 6, .inl (S 13))), (q 14, .inl (T 0, 6, .inl (S 14))), (q 15, .inl (T 0, 6, .inl (S 15))), (q 16, .inl (T 0, 2, .inl (S 16)))] ++ oX1 T h qs (sc (sc Sh 1 (nI (hPo o n))) 2 (nI (hPn n))) (updS Hs (hPi o n) S)) := hD
  refine lv_iload_n hx hb dX7_tell_54 rfl (lv_at hl 0 rfl) ?_
  subst hQ
  have hP9 : va_P G vwCl (oX7 w q qz h t gr u tr oc Sw ++ oX3 T q (sa S 11 (upd (S 11) rr (S 0 1))) ++ oX1 T h qs (sc (sc Sh 1 (nI (hPo o n))) 2 (nI (hPn n))) (updS Hs (hPi o n) S)) H := hP
  have hD9 : va_D A (oX7 w q qz h t gr u tr oc Sw ++ oX3 T q (sa S 11 (upd (S 11) rr (S 0 1))) ++ oX1 T h qs (sc (sc Sh 1 (nI (hPo o n))) 2 (nI (hPn n))) (updS Hs (hPi o n) S)) := hD
  exact e_rwi hx hb hr hlocks hS rfl hP9 hD9 dX7_tell_55
set_option maxHeartbeats 4000000 in
set_option maxRecDepth 100000 in
theorem c_X7_tell_t (l : Launch) (hst : l.stackTraces = false) (G : va_G) (T : Nat → ClassId) (sz : Nat) (w : Nat → Nat) (q : Nat → Nat) (qz : Nat → Nat) (h : Nat → Nat) (t : Nat → Nat) (gr : Nat → Nat) (u : Nat → Nat) (tr : Nat → Nat) (oc : Nat → Nat) (Sw : Nat → Nat → Int32) (x : Int32) (hbx : pBt x 6 = false) : RX l yX7_tell wsX7_tell 7 G T sz (oX7 w q qz h t gr u tr oc Sw) [.ref (w 0), .int x] (.inr "java/lang/IndexOutOfBoundsException") (oX7 w q qz h t gr u tr oc Sw) := by
  refine vx_ofW (cc := cX7_tell) (maxL := 3) (ret := (some .int)) (by decide) rfl ?_
  intro p e s m args below meth c s₁ B hml htab hv
  obtain ⟨ha, ⟨hsz, hP, hK, hD0, hE0⟩, hC⟩ := hv
  have hx := B.exec
  have hb := B.bytes
  have hr := B.returns
  have hlocks := B.notSynchronized
  have hts := atoms_spec (ws := wsX7_tell) B.pre
  have hown : s.vm.findClass RX7 = some m.cls := findClass_of_methodNamed B.named
  have cx : CallFix p m c cX7_tell 3 s args wsX7_tell RX7 := ⟨hx, hb, hml, hown, hts⟩
  subst hsz
  have hD := hD0.self (sz := s.heap.size)
  generalize hAe : va_A (oX7 w q qz h t gr u tr oc Sw) s.heap.size = A at hD hE0 ⊢
  have hE : gE A s s.heap := hE0
  have hA : ∀ q : Nat, s.heap.size ≤ q → A q := fun q h => by rw [← hAe]; exact Or.inr h
  have hS : va_S A s.heap s.heap [] := va_S.rf
  refine w_entry ha (Nat.le_of_ble_eq_true rfl) (fun ls hl => ?_)
  refine w_q (fun Q0 hQ => ?_)
  have hl : lv_has ls 3 [(0, .ref (w 0)), (1, .int x)] := hl
  have hP : va_P G vwCl [(w 0, .inr (7, [.ref (q 0), .ref (qz 0), .ref (h 0), .ref (t 0), .ref (gr 0), .ref (u 0), .ref (tr 0), .ref (oc 0), .int (Sw 0 8)]))] s.heap := hP
  have hD : va_D A [(w 0, .inr (7, [.ref (q 0), .ref (qz 0), .ref (h 0), .ref (t 0), .ref (gr 0), .ref (u 0), .ref (tr 0), .ref (oc 0), .int (Sw 0 8)]))] := hD
  skip
  refine w_h (fun H locs hHe hLe => ?_)
  have hP : va_P G vwCl [(w 0, .inr (7, [.ref (q 0), .ref (qz 0), .ref (h 0), .ref (t 0), .ref (gr 0), .ref (u 0), .ref (tr 0), .ref (oc 0), .int (Sw 0 8)]))] H := by rw [hHe]; exact hP
  have hS : va_S A s.heap H locs := by rw [hHe, hLe]; exact hS
  refine lv_iload_n hx hb dX7_tell_0 rfl (lv_at hl 1 rfl) ?_
  refine k_roS (As := [.int x]) (rest := []) (wc := []) (d := 0) (v := bI (pBt x 6)) cx (c_X7_isRoom l G T A x ) (va_cwS 1 hts gX7_tell_X7_isRoom rfl rfl rfl (by decide +kernel) ⟨Nat.le_of_ble_eq_true rfl, Nat.le_of_ble_eq_true rfl⟩) (hP.sub (ws' := []) [] rfl) hK (hE.kept hS.2.1) rfl hl.1 rfl (Nat.le_of_ble_eq_true rfl) dX7_tell_1 ⟨Nat.le_of_ble_eq_true rfl, Nat.le_of_ble_eq_true rfl⟩ ?_
  refine b_if_ne (b := pBt x 6) (tgt := 17) hx hb dX7_tell_4 (by decide) (fun c_1 => by exfalso; rw [hbx] at c_1; cases c_1) (fun c_2 => ?_)
  subst hQ
  have hP9 : va_P G vwCl (oX7 w q qz h t gr u tr oc Sw) H := hP
  have hD9 : va_D A (oX7 w q qz h t gr u tr oc Sw) := hD
  exact e_thr hx hb hst (own := RX7) (cls := "java/lang/IndexOutOfBoundsException") "no such room" ["java/lang/RuntimeException", "java/lang/Exception"] (ik := 69) (is := 124) (ic := 73) hown (by decide +kernel) (by decide +kernel) (hts (.classLink RX7 69 "java/lang/IndexOutOfBoundsException") (by decide +kernel)) (hts (.initialized "java/lang/IndexOutOfBoundsException") (by decide +kernel)) (hE.2.1 (RX7, 124, "no such room") (by decide +kernel)) (xt_Z (is := 0) (ik := 0) (text := "") hC (by decide +kernel) (by decide +kernel) (fun w9 hw9 => hts w9 (List.mem_cons_of_mem _ (List.mem_append_right _ hw9)))) (by decide +kernel) hE hS (hl.1.trans hml.symm) dX7_tell_7 dX7_tell_10 dX7_tell_11 dX7_tell_13 dX7_tell_16 htab ⟨by decide, Nat.le_of_ble_eq_true rfl, Nat.le_of_ble_eq_true rfl, Nat.le_of_ble_eq_true rfl⟩ hlocks ⟨rfl, rfl⟩ rfl hP9 hD9
set_option maxHeartbeats 4000000 in
set_option maxRecDepth 100000 in
theorem c_X7_lookout (l : Launch) (G : va_G) (T : Nat → ClassId) (sz : Nat) (w : Nat → Nat) (q : Nat → Nat) (qz : Nat → Nat) (h : Nat → Nat) (t : Nat → Nat) (gr : Nat → Nat) (u : Nat → Nat) (tr : Nat → Nat) (oc : Nat → Nat) (Sw : Nat → Nat → Int32) (S : Nat → Nat → Int32) (Sh : Nat → Nat → Int32) (qs : Nat → Nat → Nat) (Hs : Nat → Nat → Nat → Int32) (o : Nat) (n : Nat) (ff : Nat) (bb : Bool) (ho : Sh 0 1 = nI o) (hn : Sh 0 2 = nI n) (ho6 : o < 6) (hn6 : n ≤ 6) (hf3 : ff < 3) : RWi l yX7_lookout wsX7_lookout 3 0 0 G T sz (oX7 w q qz h t gr u tr oc Sw ++ oX3 T q S ++ oX1 T h qs Sh Hs) [.ref (w 0), .int (nI ff), .int (bI bb)] (pBC (pLk S ff bb)) (oX7 w q qz h t gr u tr oc Sw ++ oX3 T q (sc S 2 (pLk S ff bb)) ++ oX1 T h qs (sc (sc Sh 1 (nI (hPo o n))) 2 (nI (hPn n))) (updS Hs (hPi o n) S)) := by
  refine Met.ofW (cc := cX7_lookout) (maxL := 4) (ret := (some .int)) (by decide) rfl ?_
  intro p e s m args below meth c s₁ B hml hv
  obtain ⟨ha, hsz, hP, hK, hD0, hE0⟩ := hv
  have hx := B.exec
  have hb := B.bytes
  have hr := B.returns
  have hlocks := B.notSynchronized
  have hts := atoms_spec (ws := wsX7_lookout) B.pre
  have hown : s.vm.findClass RX7 = some m.cls := findClass_of_methodNamed B.named
  have cx : CallFix p m c cX7_lookout 4 s args wsX7_lookout RX7 := ⟨hx, hb, hml, hown, hts⟩
  subst hsz
  have hD := hD0.self (sz := s.heap.size)
  generalize hAe : va_A (oX7 w q qz h t gr u tr oc Sw ++ oX3 T q S ++ oX1 T h qs Sh Hs) s.heap.size = A at hD hE0 ⊢
  have hE : gE A s s.heap := hE0
  have hA : ∀ q : Nat, s.heap.size ≤ q → A q := fun q h => by rw [← hAe]; exact Or.inr h
  have hS : va_S A s.heap s.heap [] := va_S.rf
  refine w_entry ha (Nat.le_of_ble_eq_true rfl) (fun ls hl => ?_)
  refine w_q (fun Q0 hQ => ?_)
  have lk22 := hts (.fieldLink RX7 22 "WhistleTunes" "history" "LWhistleTunes$History;") (by decide +kernel)
  have hinX7 : ∀ w ∈ wsX70, w ∈ wsX7_lookout := by decide +kernel
  have lk10 := hts (.fieldLink RX7 10 "WhistleTunes" "school" "LWhistleTunes$School;") (by decide +kernel)
  have lk131 := hts (.fieldLink RX7 131 "WhistleTunes$School" "awakeFloors" "I") (by decide +kernel)
  have hinX3 : ∀ w ∈ wsX30, w ∈ wsX7_lookout := by decide +kernel
  have hl : lv_has ls 4 [(0, .ref (w 0)), (1, .int (nI ff)), (2, .int (bI bb))] := hl
  have hP : va_P G vwCl ([(w 0, .inr (7, [.ref (q 0), .ref (qz 0), .ref (h 0), .ref (t 0), .ref (gr 0), .ref (u 0), .ref (tr 0), .ref (oc 0), .int (Sw 0 8)])), (q 0, .inr (3, [.int (S 0 0), .int (S 0 1), .int (S 0 2), .int (S 0 3), .ref (q 5), .ref (q 6), .ref (q 7), .ref (q 8), .ref (q 9), .ref (q 10), .ref (q 11), .ref (q 12), .ref (q 13), .ref (q 14), .ref (q 15), .ref (q 16)])), (q 5, .inl (T 0, 2, .inl (S 5))), (q 6, .inl (T 0, 20, .inl (S 6))), (q 7, .inl (T 0, 160, .inl (S 7))), (q 8, .inl (T 0, 20, .inl (S 8))), (q 9, .inl (T 0, 20, .inl (S 9))), (q 10, .inl (T 0, 20, .inl (S 10))), (q 11, .inl (T 0, 6, .inl (S 11))), (q 12, .inl (T 0, 6, .inl (S 12))), (q 13, .inl (T 0, 6, .inl (S 13))), (q 14, .inl (T 0, 6, .inl (S 14))), (q 15, .inl (T 0, 6, .inl (S 15))), (q 16, .inl (T 0, 2, .inl (S 16)))] ++ oX1 T h qs Sh Hs) s.heap := hP
  have hD : va_D A ([(w 0, .inr (7, [.ref (q 0), .ref (qz 0), .ref (h 0), .ref (t 0), .ref (gr 0), .ref (u 0), .ref (tr 0), .ref (oc 0), .int (Sw 0 8)])), (q 0, .inr (3, [.int (S 0 0), .int (S 0 1), .int (S 0 2), .int (S 0 3), .ref (q 5), .ref (q 6), .ref (q 7), .ref (q 8), .ref (q 9), .ref (q 10), .ref (q 11), .ref (q 12), .ref (q 13), .ref (q 14), .ref (q 15), .ref (q 16)])), (q 5, .inl (T 0, 2, .inl (S 5))), (q 6, .inl (T 0, 20, .inl (S 6))), (q 7, .inl (T 0, 160, .inl (S 7))), (q 8, .inl (T 0, 20, .inl (S 8))), (q 9, .inl (T 0, 20, .inl (S 9))), (q 10, .inl (T 0, 20, .inl (S 10))), (q 11, .inl (T 0, 6, .inl (S 11))), (q 12, .inl (T 0, 6, .inl (S 12))), (q 13, .inl (T 0, 6, .inl (S 13))), (q 14, .inl (T 0, 6, .inl (S 14))), (q 15, .inl (T 0, 6, .inl (S 15))), (q 16, .inl (T 0, 2, .inl (S 16)))] ++ oX1 T h qs Sh Hs) := hD
  skip
  refine w_h (fun H locs hHe hLe => ?_)
  have hP : va_P G vwCl ([(w 0, .inr (7, [.ref (q 0), .ref (qz 0), .ref (h 0), .ref (t 0), .ref (gr 0), .ref (u 0), .ref (tr 0), .ref (oc 0), .int (Sw 0 8)])), (q 0, .inr (3, [.int (S 0 0), .int (S 0 1), .int (S 0 2), .int (S 0 3), .ref (q 5), .ref (q 6), .ref (q 7), .ref (q 8), .ref (q 9), .ref (q 10), .ref (q 11), .ref (q 12), .ref (q 13), .ref (q 14), .ref (q 15), .ref (q 16)])), (q 5, .inl (T 0, 2, .inl (S 5))), (q 6, .inl (T 0, 20, .inl (S 6))), (q 7, .inl (T 0, 160, .inl (S 7))), (q 8, .inl (T 0, 20, .inl (S 8))), (q 9, .inl (T 0, 20, .inl (S 9))), (q 10, .inl (T 0, 20, .inl (S 10))), (q 11, .inl (T 0, 6, .inl (S 11))), (q 12, .inl (T 0, 6, .inl (S 12))), (q 13, .inl (T 0, 6, .inl (S 13))), (q 14, .inl (T 0, 6, .inl (S 14))), (q 15, .inl (T 0, 6, .inl (S 15))), (q 16, .inl (T 0, 2, .inl (S 16)))] ++ oX1 T h qs Sh Hs) H := by rw [hHe]; exact hP
  have hS : va_S A s.heap H locs := by rw [hHe, hLe]; exact hS
  refine lv_iload_n hx hb dX7_lookout_0 rfl (lv_at hl 1 rfl) ?_
  refine n_if_lt (a := ff) hx hb (by omega) dX7_lookout_1 9 (by decide) ?_
  refine lv_iload_n hx hb dX7_lookout_4 rfl (lv_at hl 1 rfl) ?_
  refine n_iconst hx hb 3 dX7_lookout_5 (by decide) ?_
  refine n_icmp_lt (a := ff) (b := 3) (tgt := 19) hx hb (by omega) (by decide) dX7_lookout_6 (by decide) (fun c_1 => ?_) (fun c_2 => by exfalso; omega)
  refine lv_aload_n hx hb dX7_lookout_19 rfl (lv_at hl 0 rfl) ?_
  refine va_get (D := G) (ci := 7) (v := .ref (h 0)) (C := RX7) (T := TX7) (N := 9) hx hb hts hinX7 hown hK hP 0 rfl rfl 2 (by decide) lk22 (fun _ h9 => h9) rfl dX7_lookout_20 ?_
  refine lv_aload_n hx hb dX7_lookout_23 rfl (lv_at hl 0 rfl) ?_
  refine va_get (D := G) (ci := 7) (v := .ref (q 0)) (C := RX7) (T := TX7) (N := 9) hx hb hts hinX7 hown hK hP 0 rfl rfl 0 (by decide) lk10 (fun _ h9 => h9) rfl dX7_lookout_24 ?_
  refine k_rvV (As := [.ref (q 0)]) (rest := []) (wc := oX1 T h qs Sh Hs ++ oX3 T q S) (wr := oX7 w q qz h t gr u tr oc Sw) (w1 := oX1 T h qs (sc (sc Sh 1 (nI (hPo o n))) 2 (nI (hPn n))) (updS Hs (hPi o n) S) ++ oX3 T q S) (d := 2) (mc := 0) (ms := 0) (isC := [14, 15, 16, 17, 18, 19, 20, 21, 22, 23, 24, 25, 26, 27, 28, 29, 30, 31, 32, 33, 34, 35, 36, 37, 38, 39, 40, 41, 42, 43, 44, 45, 46, 47, 48, 49, 50, 51, 52, 53, 54, 55, 56, 57, 58, 59, 60, 61, 62, 63, 64, 65, 66, 67, 68, 69, 70, 71, 72, 73, 74, 75, 76, 77, 78, 79, 80, 81, 82, 83, 84, 85, 86, 87, 88, 89, 90, 91, 92, 93, 1, 2, 3, 4, 5, 6, 7, 8, 9, 10, 11, 12, 13]) (isR := [0]) cx (c_X1_push l G T H.size h qs Sh Hs q S o n (by first | assumption | rfl | omega) (by first | assumption | rfl | omega) (by omega) (by omega)) (cwV 1 hts gX7_lookout_X1_push rfl rfl rfl (by decide +kernel) ⟨Nat.le_of_ble_eq_true rfl, Nat.le_of_ble_eq_true rfl⟩) ⟨hP, hD, hS, hA, hE, hK, rfl, rfl, rfl, rfl, by decide⟩ (va_recv hK hP (ci := 1) (q0 := 14) rfl rfl) rfl hl.1 rfl (Nat.le_of_ble_eq_true rfl) dX7_lookout_27 ⟨Nat.le_of_ble_eq_true rfl, Nat.le_of_ble_eq_true rfl⟩ (fun H locs hP hD hS hz => ?_)
  have hP : va_P G vwCl ([(w 0, .inr (7, [.ref (q 0), .ref (qz 0), .ref (h 0), .ref (t 0), .ref (gr 0), .ref (u 0), .ref (tr 0), .ref (oc 0), .int (Sw 0 8)])), (q 0, .inr (3, [.int (S 0 0), .int (S 0 1), .int (S 0 2), .int (S 0 3), .ref (q 5), .ref (q 6), .ref (q 7), .ref (q 8), .ref (q 9), .ref (q 10), .ref (q 11), .ref (q 12), .ref (q 13), .ref (q 14), .ref (q 15), .ref (q 16)])), (q 5, .inl (T 0, 2, .inl (S 5))), (q 6, .inl (T 0, 20, .inl (S 6))), (q 7, .inl (T 0, 160, .inl (S 7))), (q 8, .inl (T 0, 20, .inl (S 8))), (q 9, .inl (T 0, 20, .inl (S 9))), (q 10, .inl (T 0, 20, .inl (S 10))), (q 11, .inl (T 0, 6, .inl (S 11))), (q 12, .inl (T 0, 6, .inl (S 12))), (q 13, .inl (T 0, 6, .inl (S 13))), (q 14, .inl (T 0, 6, .inl (S 14))), (q 15, .inl (T 0, 6, .inl (S 15))), (q 16, .inl (T 0, 2, .inl (S 16)))] ++ oX1 T h qs (sc (sc Sh 1 (nI (hPo o n))) 2 (nI (hPn n))) (updS Hs (hPi o n) S)) H := kN.sub (is := [0, 81, 82, 83, 84, 85, 86, 87, 88, 89, 90, 91, 92, 93, 1, 2, 3, 4, 5, 6, 7, 8, 9, 10, 11, 12, 13, 14, 15, 16, 17, 18, 19, 20, 21, 22, 23, 24, 25, 26, 27, 28, 29, 30, 31, 32, 33, 34, 35, 36, 37, 38, 39, 40, 41, 42, 43, 44, 45, 46, 47, 48, 49, 50, 51, 52, 53, 54, 55, 56, 57, 58, 59, 60, 61, 62, 63, 64, 65, 66, 67, 68, 69, 70, 71, 72, 73, 74, 75, 76, 77, 78, 79, 80]) hP rfl
  have hD : va_D A ([(w 0, .inr (7, [.ref (q 0), .ref (qz 0), .ref (h 0), .ref (t 0), .ref (gr 0), .ref (u 0), .ref (tr 0), .ref (oc 0), .int (Sw 0 8)])), (q 0, .inr (3, [.int (S 0 0), .int (S 0 1), .int (S 0 2), .int (S 0 3), .ref (q 5), .ref (q 6), .ref (q 7), .ref (q 8), .ref (q 9), .ref (q 10), .ref (q 11), .ref (q 12), .ref (q 13), .ref (q 14), .ref (q 15), .ref (q 16)])), (q 5, .inl (T 0, 2, .inl (S 5))), (q 6, .inl (T 0, 20, .inl (S 6))), (q 7, .inl (T 0, 160, .inl (S 7))), (q 8, .inl (T 0, 20, .inl (S 8))), (q 9, .inl (T 0, 20, .inl (S 9))), (q 10, .inl (T 0, 20, .inl (S 10))), (q 11, .inl (T 0, 6, .inl (S 11))), (q 12, .inl (T 0, 6, .inl (S 12))), (q 13, .inl (T 0, 6, .inl (S 13))), (q 14, .inl (T 0, 6, .inl (S 14))), (q 15, .inl (T 0, 6, .inl (S 15))), (q 16, .inl (T 0, 2, .inl (S 16)))] ++ oX1 T h qs (sc (sc Sh 1 (nI (hPo o n))) 2 (nI (hPn n))) (updS Hs (hPi o n) S)) := hD.sub [0, 81, 82, 83, 84, 85, 86, 87, 88, 89, 90, 91, 92, 93, 1, 2, 3, 4, 5, 6, 7, 8, 9, 10, 11, 12, 13, 14, 15, 16, 17, 18, 19, 20, 21, 22, 23, 24, 25, 26, 27, 28, 29, 30, 31, 32, 33, 34, 35, 36, 37, 38, 39, 40, 41, 42, 43, 44, 45, 46, 47, 48, 49, 50, 51, 52, 53, 54, 55, 56, 57, 58, 59, 60, 61, 62, 63, 64, 65, 66, 67, 68, 69, 70, 71, 72, 73, 74, 75, 76, 77, 78, 79, 80] rfl rfl
  refine n_iconst hx hb 1 dX7_lookout_30 (by decide) ?_
  refine lv_iload_n hx hb dX7_lookout_31 rfl (lv_at hl 1 rfl) ?_
  refine x_ishl hx hb dX7_lookout_32 ?_
  refine lv_istore_n (lv' := [(3, .int (iShl (nI 1) (nI ff))), (0, .ref (w 0)), (1, .int (nI ff)), (2, .int (bI bb))]) hx hb dX7_lookout_33 rfl hl (by decide) rfl (fun ls hl => ?_)
  refine lv_aload_n hx hb dX7_lookout_34 rfl (lv_at hl 1 rfl) ?_
  refine va_get (D := G) (ci := 7) (v := .ref (q 0)) (C := RX7) (T := TX7) (N := 9) hx hb hts hinX7 hown hK hP 0 rfl rfl 0 (by decide) lk10 (fun _ h9 => h9) rfl dX7_lookout_35 ?_
  refine lv_iload_n hx hb dX7_lookout_38 rfl (lv_at hl 3 rfl) ?_
  refine b_if_eq (b := bb) (tgt := 54) hx hb dX7_lookout_39 (by decide) (fun c_3 => ?_) (fun c_4 => ?_)
  · skip
    refine lv_aload_n hx hb dX7_lookout_54 rfl (lv_at hl 1 rfl) ?_
    refine va_get (D := G) (ci := 7) (v := .ref (q 0)) (C := RX7) (T := TX7) (N := 9) hx hb hts hinX7 hown hK hP 0 rfl rfl 0 (by decide) lk10 (fun _ h9 => h9) rfl dX7_lookout_55 ?_
    refine va_get (D := G) (ci := 3) (v := .int (S 0 2)) (C := RX3) (T := TX3) (N := 16) hx hb hts hinX3 hown hK hP 1 rfl rfl 2 (by decide) lk131 (fun _ h9 => h9) rfl dX7_lookout_58 ?_
    refine lv_iload_n hx hb dX7_lookout_61 rfl (lv_at hl 0 rfl) ?_
    refine lv_iconst (v := -1) hx hb dX7_lookout_62 (by decide) ?_
    refine lv_ixor hx hb dX7_lookout_63 ?_
    refine lv_iand hx hb dX7_lookout_64 ?_
    refine va_put (D := G) (ci := 3) (v := .int ((S 0 2) &&& ((iShl (nI 1) (nI ff)) ^^^ (-1)))) (ty := .int) (C := RX3) (T := TX3) (N := 16) hx hb hts hinX3 tyX3 tyX3_ok nmX3 hown hK hP hD hS 1 rfl rfl 2 (by decide) lk131 (fun _ h9 => h9) rfl (by decide +kernel) rfl rfl (Nat.le_of_ble_eq_true rfl) dX7_lookout_65 (fun H locs hP hD hS => ?_)
    have hP : va_P G vwCl ([(w 0, .inr (7, [.ref (q 0), .ref (qz 0), .ref (h 0), .ref (t 0), .ref (gr 0), .ref (u 0), .ref (tr 0), .ref (oc 0), .int (Sw 0 8)])), (q 0, .inr (3, [.int (S 0 0), .int (S 0 1), .int ((S 0 2) &&& ((iShl (nI 1) (nI ff)) ^^^ (-1))), .int (S 0 3), .ref (q 5), .ref (q 6), .ref (q 7), .ref (q 8), .ref (q 9), .ref (q 10), .ref (q 11), .ref (q 12), .ref (q 13), .ref (q 14), .ref (q 15), .ref (q 16)])), (q 5, .inl (T 0, 2, .inl (S 5))), (q 6, .inl (T 0, 20, .inl (S 6))), (q 7, .inl (T 0, 160, .inl (S 7))), (q 8, .inl (T 0, 20, .inl (S 8))), (q 9, .inl (T 0, 20, .inl (S 9))), (q 10, .inl (T 0, 20, .inl (S 10))), (q 11, .inl (T 0, 6, .inl (S 11))), (q 12, .inl (T 0, 6, .inl (S 12))), (q 13, .inl (T 0, 6, .inl (S 13))), (q 14, .inl (T 0, 6, .inl (S 14))), (q 15, .inl (T 0, 6, .inl (S 15))), (q 16, .inl (T 0, 2, .inl (S 16)))] ++ oX1 T h qs (sc (sc Sh 1 (nI (hPo o n))) 2 (nI (hPn n))) (updS Hs (hPi o n) S)) H := hP
    have hD : va_D A ([(w 0, .inr (7, [.ref (q 0), .ref (qz 0), .ref (h 0), .ref (t 0), .ref (gr 0), .ref (u 0), .ref (tr 0), .ref (oc 0), .int (Sw 0 8)])), (q 0, .inr (3, [.int (S 0 0), .int (S 0 1), .int ((S 0 2) &&& ((iShl (nI 1) (nI ff)) ^^^ (-1))), .int (S 0 3), .ref (q 5), .ref (q 6), .ref (q 7), .ref (q 8), .ref (q 9), .ref (q 10), .ref (q 11), .ref (q 12), .ref (q 13), .ref (q 14), .ref (q 15), .ref (q 16)])), (q 5, .inl (T 0, 2, .inl (S 5))), (q 6, .inl (T 0, 20, .inl (S 6))), (q 7, .inl (T 0, 160, .inl (S 7))), (q 8, .inl (T 0, 20, .inl (S 8))), (q 9, .inl (T 0, 20, .inl (S 9))), (q 10, .inl (T 0, 20, .inl (S 10))), (q 11, .inl (T 0, 6, .inl (S 11))), (q 12, .inl (T 0, 6, .inl (S 12))), (q 13, .inl (T 0, 6, .inl (S 13))), (q 14, .inl (T 0, 6, .inl (S 14))), (q 15, .inl (T 0, 6, .inl (S 15))), (q 16, .inl (T 0, 2, .inl (S 16)))] ++ oX1 T h qs (sc (sc Sh 1 (nI (hPo o n))) 2 (nI (hPn n))) (updS Hs (hPi o n) S)) := hD
    refine lv_aload_n hx hb dX7_lookout_68 rfl (lv_at hl 1 rfl) ?_
    refine va_get (D := G) (ci := 7) (v := .ref (q 0)) (C := RX7) (T := TX7) (N := 9) hx hb hts hinX7 hown hK hP 0 rfl rfl 0 (by decide) lk10 (fun _ h9 => h9) rfl dX7_lookout_69 ?_
    refine va_get (D := G) (ci := 3) (v := .int ((S 0 2) &&& ((iShl (nI 1) (nI ff)) ^^^ (-1)))) (C := RX3) (T := TX3) (N := 16) hx hb hts hinX3 hown hK hP 1 rfl rfl 2 (by decide) lk131 (fun _ h9 => h9) rfl dX7_lookout_72 ?_
    refine k_roS (As := [.int ((S 0 2) &&& ((iShl (nI 1) (nI ff)) ^^^ (-1)))]) (rest := []) (wc := []) (d := 0) (v := pBC ((S 0 2) &&& ((iShl (nI 1) (nI ff)) ^^^ (-1)))) cx (c_J6_bitCount_0f7a4 l G T A ((S 0 2) &&& ((iShl (nI 1) (nI ff)) ^^^ (-1))) ) (va_cwS 1 hts gX7_lookout_J6_bitCount_0f7a4 rfl rfl rfl (by decide +kernel) ⟨Nat.le_of_ble_eq_true rfl, Nat.le_of_ble_eq_true rfl⟩) (hP.sub (ws' := []) [] rfl) hK (hE.kept hS.2.1) rfl hl.1 rfl (Nat.le_of_ble_eq_true rfl) dX7_lookout_75 ⟨Nat.le_of_ble_eq_true rfl, Nat.le_of_ble_eq_true rfl⟩ ?_
    subst hQ
    have e_5 : (S 0 2) &&& ((iShl (nI 1) (nI ff)) ^^^ (-1)) = pLk S ff bb := (by unfold pLk; rw [c_3]; rfl)
    rw [e_5] at hP hD
    have hP9 : va_P G vwCl (oX7 w q qz h t gr u tr oc Sw ++ oX3 T q (sc S 2 (pLk S ff bb)) ++ oX1 T h qs (sc (sc Sh 1 (nI (hPo o n))) 2 (nI (hPn n))) (updS Hs (hPi o n) S)) H := hP
    have hD9 : va_D A (oX7 w q qz h t gr u tr oc Sw ++ oX3 T q (sc S 2 (pLk S ff bb)) ++ oX1 T h qs (sc (sc Sh 1 (nI (hPo o n))) 2 (nI (hPn n))) (updS Hs (hPi o n) S)) := hD
    exact e_rwi hx hb hr hlocks hS (by unfold pLk; rw [c_3]; rfl) hP9 hD9 dX7_lookout_78
  · skip
    refine lv_aload_n hx hb dX7_lookout_42 rfl (lv_at hl 1 rfl) ?_
    refine va_get (D := G) (ci := 7) (v := .ref (q 0)) (C := RX7) (T := TX7) (N := 9) hx hb hts hinX7 hown hK hP 0 rfl rfl 0 (by decide) lk10 (fun _ h9 => h9) rfl dX7_lookout_43 ?_
    refine va_get (D := G) (ci := 3) (v := .int (S 0 2)) (C := RX3) (T := TX3) (N := 16) hx hb hts hinX3 hown hK hP 1 rfl rfl 2 (by decide) lk131 (fun _ h9 => h9) rfl dX7_lookout_46 ?_
    refine lv_iload_n hx hb dX7_lookout_49 rfl (lv_at hl 0 rfl) ?_
    refine lv_ior hx hb dX7_lookout_50 ?_
    refine lv_goto (tgt := 65) hx hb dX7_lookout_51 (by decide) ?_
    refine va_put (D := G) (ci := 3) (v := .int ((S 0 2) ||| (iShl (nI 1) (nI ff)))) (ty := .int) (C := RX3) (T := TX3) (N := 16) hx hb hts hinX3 tyX3 tyX3_ok nmX3 hown hK hP hD hS 1 rfl rfl 2 (by decide) lk131 (fun _ h9 => h9) rfl (by decide +kernel) rfl rfl (Nat.le_of_ble_eq_true rfl) dX7_lookout_65 (fun H locs hP hD hS => ?_)
    have hP : va_P G vwCl ([(w 0, .inr (7, [.ref (q 0), .ref (qz 0), .ref (h 0), .ref (t 0), .ref (gr 0), .ref (u 0), .ref (tr 0), .ref (oc 0), .int (Sw 0 8)])), (q 0, .inr (3, [.int (S 0 0), .int (S 0 1), .int ((S 0 2) ||| (iShl (nI 1) (nI ff))), .int (S 0 3), .ref (q 5), .ref (q 6), .ref (q 7), .ref (q 8), .ref (q 9), .ref (q 10), .ref (q 11), .ref (q 12), .ref (q 13), .ref (q 14), .ref (q 15), .ref (q 16)])), (q 5, .inl (T 0, 2, .inl (S 5))), (q 6, .inl (T 0, 20, .inl (S 6))), (q 7, .inl (T 0, 160, .inl (S 7))), (q 8, .inl (T 0, 20, .inl (S 8))), (q 9, .inl (T 0, 20, .inl (S 9))), (q 10, .inl (T 0, 20, .inl (S 10))), (q 11, .inl (T 0, 6, .inl (S 11))), (q 12, .inl (T 0, 6, .inl (S 12))), (q 13, .inl (T 0, 6, .inl (S 13))), (q 14, .inl (T 0, 6, .inl (S 14))), (q 15, .inl (T 0, 6, .inl (S 15))), (q 16, .inl (T 0, 2, .inl (S 16)))] ++ oX1 T h qs (sc (sc Sh 1 (nI (hPo o n))) 2 (nI (hPn n))) (updS Hs (hPi o n) S)) H := hP
    have hD : va_D A ([(w 0, .inr (7, [.ref (q 0), .ref (qz 0), .ref (h 0), .ref (t 0), .ref (gr 0), .ref (u 0), .ref (tr 0), .ref (oc 0), .int (Sw 0 8)])), (q 0, .inr (3, [.int (S 0 0), .int (S 0 1), .int ((S 0 2) ||| (iShl (nI 1) (nI ff))), .int (S 0 3), .ref (q 5), .ref (q 6), .ref (q 7), .ref (q 8), .ref (q 9), .ref (q 10), .ref (q 11), .ref (q 12), .ref (q 13), .ref (q 14), .ref (q 15), .ref (q 16)])), (q 5, .inl (T 0, 2, .inl (S 5))), (q 6, .inl (T 0, 20, .inl (S 6))), (q 7, .inl (T 0, 160, .inl (S 7))), (q 8, .inl (T 0, 20, .inl (S 8))), (q 9, .inl (T 0, 20, .inl (S 9))), (q 10, .inl (T 0, 20, .inl (S 10))), (q 11, .inl (T 0, 6, .inl (S 11))), (q 12, .inl (T 0, 6, .inl (S 12))), (q 13, .inl (T 0, 6, .inl (S 13))), (q 14, .inl (T 0, 6, .inl (S 14))), (q 15, .inl (T 0, 6, .inl (S 15))), (q 16, .inl (T 0, 2, .inl (S 16)))] ++ oX1 T h qs (sc (sc Sh 1 (nI (hPo o n))) 2 (nI (hPn n))) (updS Hs (hPi o n) S)) := hD
    refine lv_aload_n hx hb dX7_lookout_68 rfl (lv_at hl 1 rfl) ?_
    refine va_get (D := G) (ci := 7) (v := .ref (q 0)) (C := RX7) (T := TX7) (N := 9) hx hb hts hinX7 hown hK hP 0 rfl rfl 0 (by decide) lk10 (fun _ h9 => h9) rfl dX7_lookout_69 ?_
    refine va_get (D := G) (ci := 3) (v := .int ((S 0 2) ||| (iShl (nI 1) (nI ff)))) (C := RX3) (T := TX3) (N := 16) hx hb hts hinX3 hown hK hP 1 rfl rfl 2 (by decide) lk131 (fun _ h9 => h9) rfl dX7_lookout_72 ?_
    refine k_roS (As := [.int ((S 0 2) ||| (iShl (nI 1) (nI ff)))]) (rest := []) (wc := []) (d := 0) (v := pBC ((S 0 2) ||| (iShl (nI 1) (nI ff)))) cx (c_J6_bitCount_0f7a4 l G T A ((S 0 2) ||| (iShl (nI 1) (nI ff))) ) (va_cwS 1 hts gX7_lookout_J6_bitCount_0f7a4 rfl rfl rfl (by decide +kernel) ⟨Nat.le_of_ble_eq_true rfl, Nat.le_of_ble_eq_true rfl⟩) (hP.sub (ws' := []) [] rfl) hK (hE.kept hS.2.1) rfl hl.1 rfl (Nat.le_of_ble_eq_true rfl) dX7_lookout_75 ⟨Nat.le_of_ble_eq_true rfl, Nat.le_of_ble_eq_true rfl⟩ ?_
    subst hQ
    have e_6 : (S 0 2) ||| (iShl (nI 1) (nI ff)) = pLk S ff bb := (by unfold pLk; rw [c_4]; rfl)
    rw [e_6] at hP hD
    have hP9 : va_P G vwCl (oX7 w q qz h t gr u tr oc Sw ++ oX3 T q (sc S 2 (pLk S ff bb)) ++ oX1 T h qs (sc (sc Sh 1 (nI (hPo o n))) 2 (nI (hPn n))) (updS Hs (hPi o n) S)) H := hP
    have hD9 : va_D A (oX7 w q qz h t gr u tr oc Sw ++ oX3 T q (sc S 2 (pLk S ff bb)) ++ oX1 T h qs (sc (sc Sh 1 (nI (hPo o n))) 2 (nI (hPn n))) (updS Hs (hPi o n) S)) := hD
    exact e_rwi hx hb hr hlocks hS (by unfold pLk; rw [c_4]; rfl) hP9 hD9 dX7_lookout_78
set_option maxHeartbeats 4000000 in
set_option maxRecDepth 100000 in
theorem c_X7_lookout_t (l : Launch) (hst : l.stackTraces = false) (G : va_G) (T : Nat → ClassId) (sz : Nat) (w : Nat → Nat) (q : Nat → Nat) (qz : Nat → Nat) (h : Nat → Nat) (t : Nat → Nat) (gr : Nat → Nat) (u : Nat → Nat) (tr : Nat → Nat) (oc : Nat → Nat) (Sw : Nat → Nat → Int32) (x : Int32) (bb : Bool) (hbx : pBt x 3 = false) : RX l yX7_lookout wsX7_lookout 7 G T sz (oX7 w q qz h t gr u tr oc Sw) [.ref (w 0), .int x, .int (bI bb)] (.inr "java/lang/IndexOutOfBoundsException") (oX7 w q qz h t gr u tr oc Sw) := by
  refine vx_ofW (cc := cX7_lookout) (maxL := 4) (ret := (some .int)) (by decide) rfl ?_
  intro p e s m args below meth c s₁ B hml htab hv
  obtain ⟨ha, ⟨hsz, hP, hK, hD0, hE0⟩, hC⟩ := hv
  have hx := B.exec
  have hb := B.bytes
  have hr := B.returns
  have hlocks := B.notSynchronized
  have hts := atoms_spec (ws := wsX7_lookout) B.pre
  have hown : s.vm.findClass RX7 = some m.cls := findClass_of_methodNamed B.named
  have cx : CallFix p m c cX7_lookout 4 s args wsX7_lookout RX7 := ⟨hx, hb, hml, hown, hts⟩
  subst hsz
  have hD := hD0.self (sz := s.heap.size)
  generalize hAe : va_A (oX7 w q qz h t gr u tr oc Sw) s.heap.size = A at hD hE0 ⊢
  have hE : gE A s s.heap := hE0
  have hA : ∀ q : Nat, s.heap.size ≤ q → A q := fun q h => by rw [← hAe]; exact Or.inr h
  have hS : va_S A s.heap s.heap [] := va_S.rf
  refine w_entry ha (Nat.le_of_ble_eq_true rfl) (fun ls hl => ?_)
  refine w_q (fun Q0 hQ => ?_)
  have hl : lv_has ls 4 [(0, .ref (w 0)), (1, .int x), (2, .int (bI bb))] := hl
  have hP : va_P G vwCl [(w 0, .inr (7, [.ref (q 0), .ref (qz 0), .ref (h 0), .ref (t 0), .ref (gr 0), .ref (u 0), .ref (tr 0), .ref (oc 0), .int (Sw 0 8)]))] s.heap := hP
  have hD : va_D A [(w 0, .inr (7, [.ref (q 0), .ref (qz 0), .ref (h 0), .ref (t 0), .ref (gr 0), .ref (u 0), .ref (tr 0), .ref (oc 0), .int (Sw 0 8)]))] := hD
  skip
  refine w_h (fun H locs hHe hLe => ?_)
  have hP : va_P G vwCl [(w 0, .inr (7, [.ref (q 0), .ref (qz 0), .ref (h 0), .ref (t 0), .ref (gr 0), .ref (u 0), .ref (tr 0), .ref (oc 0), .int (Sw 0 8)]))] H := by rw [hHe]; exact hP
  have hS : va_S A s.heap H locs := by rw [hHe, hLe]; exact hS
  refine lv_iload_n hx hb dX7_lookout_0 rfl (lv_at hl 1 rfl) ?_
  refine lv_if_lt (tgt := 9) hx hb dX7_lookout_1 (by decide) (fun c_1 => ?_) (fun c_2 => ?_)
  · skip
    subst hQ
    have hP9 : va_P G vwCl (oX7 w q qz h t gr u tr oc Sw) H := hP
    have hD9 : va_D A (oX7 w q qz h t gr u tr oc Sw) := hD
    exact e_thr hx hb hst (own := RX7) (cls := "java/lang/IndexOutOfBoundsException") "no such floor" ["java/lang/RuntimeException", "java/lang/Exception"] (ik := 69) (is := 129) (ic := 73) hown (by decide +kernel) (by decide +kernel) (hts (.classLink RX7 69 "java/lang/IndexOutOfBoundsException") (by decide +kernel)) (hts (.initialized "java/lang/IndexOutOfBoundsException") (by decide +kernel)) (hE.2.1 (RX7, 129, "no such floor") (by decide +kernel)) (xt_Z (is := 0) (ik := 0) (text := "") hC (by decide +kernel) (by decide +kernel) (fun w9 hw9 => hts w9 (List.mem_cons_of_mem _ (List.mem_append_right _ hw9)))) (by decide +kernel) hE hS (hl.1.trans hml.symm) dX7_lookout_9 dX7_lookout_12 dX7_lookout_13 dX7_lookout_15 dX7_lookout_18 htab ⟨by decide, Nat.le_of_ble_eq_true rfl, Nat.le_of_ble_eq_true rfl, Nat.le_of_ble_eq_true rfl⟩ hlocks ⟨rfl, rfl⟩ rfl hP9 hD9
  · skip
    refine lv_iload_n hx hb dX7_lookout_4 rfl (lv_at hl 1 rfl) ?_
    refine n_iconst hx hb 3 dX7_lookout_5 (by decide) ?_
    refine lv_icmp_lt (tgt := 19) hx hb dX7_lookout_6 (by decide) (fun c_3 => by exfalso; exact pBt_X hbx (by assumption) c_3) (fun c_4 => ?_)
    subst hQ
    have hP9 : va_P G vwCl (oX7 w q qz h t gr u tr oc Sw) H := hP
    have hD9 : va_D A (oX7 w q qz h t gr u tr oc Sw) := hD
    exact e_thr hx hb hst (own := RX7) (cls := "java/lang/IndexOutOfBoundsException") "no such floor" ["java/lang/RuntimeException", "java/lang/Exception"] (ik := 69) (is := 129) (ic := 73) hown (by decide +kernel) (by decide +kernel) (hts (.classLink RX7 69 "java/lang/IndexOutOfBoundsException") (by decide +kernel)) (hts (.initialized "java/lang/IndexOutOfBoundsException") (by decide +kernel)) (hE.2.1 (RX7, 129, "no such floor") (by decide +kernel)) (xt_Z (is := 0) (ik := 0) (text := "") hC (by decide +kernel) (by decide +kernel) (fun w9 hw9 => hts w9 (List.mem_cons_of_mem _ (List.mem_append_right _ hw9)))) (by decide +kernel) hE hS (hl.1.trans hml.symm) dX7_lookout_9 dX7_lookout_12 dX7_lookout_13 dX7_lookout_15 dX7_lookout_18 htab ⟨by decide, Nat.le_of_ble_eq_true rfl, Nat.le_of_ble_eq_true rfl, Nat.le_of_ble_eq_true rfl⟩ hlocks ⟨rfl, rfl⟩ rfl hP9 hD9
set_option maxHeartbeats 4000000 in
set_option maxRecDepth 100000 in
theorem c_X7_ban (l : Launch) (G : va_G) (T : Nat → ClassId) (sz : Nat) (w : Nat → Nat) (q : Nat → Nat) (qz : Nat → Nat) (h : Nat → Nat) (t : Nat → Nat) (gr : Nat → Nat) (u : Nat → Nat) (tr : Nat → Nat) (oc : Nat → Nat) (Sw : Nat → Nat → Int32) (S : Nat → Nat → Int32) (Sh : Nat → Nat → Int32) (qs : Nat → Nat → Nat) (Hs : Nat → Nat → Nat → Int32) (o : Nat) (n : Nat) (ff : Nat) (mm : Nat) (ho : Sh 0 1 = nI o) (hn : Sh 0 2 = nI n) (ho6 : o < 6) (hn6 : n ≤ 6) (hf3 : ff < 3) (hm20 : mm < 20) : RWi l yX7_ban wsX7_ban 3 0 0 G T sz (oX7 w q qz h t gr u tr oc Sw ++ oX3 T q S ++ oX1 T h qs Sh Hs) [.ref (w 0), .int (nI ff), .int (nI mm)] (bI (pHB (S 8 mm ^^^ iShl (nI 1) (nI ff)) (nI ff))) (oX7 w q qz h t gr u tr oc Sw ++ oX3 T q (sa S 8 (upd (S 8) mm (S 8 mm ^^^ iShl (nI 1) (nI ff)))) ++ oX1 T h qs (sc (sc Sh 1 (nI (hPo o n))) 2 (nI (hPn n))) (updS Hs (hPi o n) S)) := by
  refine Met.ofW (cc := cX7_ban) (maxL := 3) (ret := (some .int)) (by decide) rfl ?_
  intro p e s m args below meth c s₁ B hml hv
  obtain ⟨ha, hsz, hP, hK, hD0, hE0⟩ := hv
  have hx := B.exec
  have hb := B.bytes
  have hr := B.returns
  have hlocks := B.notSynchronized
  have hts := atoms_spec (ws := wsX7_ban) B.pre
  have hown : s.vm.findClass RX7 = some m.cls := findClass_of_methodNamed B.named
  have cx : CallFix p m c cX7_ban 3 s args wsX7_ban RX7 := ⟨hx, hb, hml, hown, hts⟩
  subst hsz
  have hD := hD0.self (sz := s.heap.size)
  generalize hAe : va_A (oX7 w q qz h t gr u tr oc Sw ++ oX3 T q S ++ oX1 T h qs Sh Hs) s.heap.size = A at hD hE0 ⊢
  have hE : gE A s s.heap := hE0
  have hA : ∀ q : Nat, s.heap.size ≤ q → A q := fun q h => by rw [← hAe]; exact Or.inr h
  have hS : va_S A s.heap s.heap [] := va_S.rf
  refine w_entry ha (Nat.le_of_ble_eq_true rfl) (fun ls hl => ?_)
  refine w_q (fun Q0 hQ => ?_)
  have lk22 := hts (.fieldLink RX7 22 "WhistleTunes" "history" "LWhistleTunes$History;") (by decide +kernel)
  have hinX7 : ∀ w ∈ wsX70, w ∈ wsX7_ban := by decide +kernel
  have lk10 := hts (.fieldLink RX7 10 "WhistleTunes" "school" "LWhistleTunes$School;") (by decide +kernel)
  have lk141 := hts (.fieldLink RX7 141 "WhistleTunes$School" "forbidders" "[I") (by decide +kernel)
  have hinX3 : ∀ w ∈ wsX30, w ∈ wsX7_ban := by decide +kernel
  have hl : lv_has ls 3 [(0, .ref (w 0)), (1, .int (nI ff)), (2, .int (nI mm))] := hl
  have hP : va_P G vwCl ([(w 0, .inr (7, [.ref (q 0), .ref (qz 0), .ref (h 0), .ref (t 0), .ref (gr 0), .ref (u 0), .ref (tr 0), .ref (oc 0), .int (Sw 0 8)])), (q 0, .inr (3, [.int (S 0 0), .int (S 0 1), .int (S 0 2), .int (S 0 3), .ref (q 5), .ref (q 6), .ref (q 7), .ref (q 8), .ref (q 9), .ref (q 10), .ref (q 11), .ref (q 12), .ref (q 13), .ref (q 14), .ref (q 15), .ref (q 16)])), (q 5, .inl (T 0, 2, .inl (S 5))), (q 6, .inl (T 0, 20, .inl (S 6))), (q 7, .inl (T 0, 160, .inl (S 7))), (q 8, .inl (T 0, 20, .inl (S 8))), (q 9, .inl (T 0, 20, .inl (S 9))), (q 10, .inl (T 0, 20, .inl (S 10))), (q 11, .inl (T 0, 6, .inl (S 11))), (q 12, .inl (T 0, 6, .inl (S 12))), (q 13, .inl (T 0, 6, .inl (S 13))), (q 14, .inl (T 0, 6, .inl (S 14))), (q 15, .inl (T 0, 6, .inl (S 15))), (q 16, .inl (T 0, 2, .inl (S 16)))] ++ oX1 T h qs Sh Hs) s.heap := hP
  have hD : va_D A ([(w 0, .inr (7, [.ref (q 0), .ref (qz 0), .ref (h 0), .ref (t 0), .ref (gr 0), .ref (u 0), .ref (tr 0), .ref (oc 0), .int (Sw 0 8)])), (q 0, .inr (3, [.int (S 0 0), .int (S 0 1), .int (S 0 2), .int (S 0 3), .ref (q 5), .ref (q 6), .ref (q 7), .ref (q 8), .ref (q 9), .ref (q 10), .ref (q 11), .ref (q 12), .ref (q 13), .ref (q 14), .ref (q 15), .ref (q 16)])), (q 5, .inl (T 0, 2, .inl (S 5))), (q 6, .inl (T 0, 20, .inl (S 6))), (q 7, .inl (T 0, 160, .inl (S 7))), (q 8, .inl (T 0, 20, .inl (S 8))), (q 9, .inl (T 0, 20, .inl (S 9))), (q 10, .inl (T 0, 20, .inl (S 10))), (q 11, .inl (T 0, 6, .inl (S 11))), (q 12, .inl (T 0, 6, .inl (S 12))), (q 13, .inl (T 0, 6, .inl (S 13))), (q 14, .inl (T 0, 6, .inl (S 14))), (q 15, .inl (T 0, 6, .inl (S 15))), (q 16, .inl (T 0, 2, .inl (S 16)))] ++ oX1 T h qs Sh Hs) := hD
  skip
  refine w_h (fun H locs hHe hLe => ?_)
  have hP : va_P G vwCl ([(w 0, .inr (7, [.ref (q 0), .ref (qz 0), .ref (h 0), .ref (t 0), .ref (gr 0), .ref (u 0), .ref (tr 0), .ref (oc 0), .int (Sw 0 8)])), (q 0, .inr (3, [.int (S 0 0), .int (S 0 1), .int (S 0 2), .int (S 0 3), .ref (q 5), .ref (q 6), .ref (q 7), .ref (q 8), .ref (q 9), .ref (q 10), .ref (q 11), .ref (q 12), .ref (q 13), .ref (q 14), .ref (q 15), .ref (q 16)])), (q 5, .inl (T 0, 2, .inl (S 5))), (q 6, .inl (T 0, 20, .inl (S 6))), (q 7, .inl (T 0, 160, .inl (S 7))), (q 8, .inl (T 0, 20, .inl (S 8))), (q 9, .inl (T 0, 20, .inl (S 9))), (q 10, .inl (T 0, 20, .inl (S 10))), (q 11, .inl (T 0, 6, .inl (S 11))), (q 12, .inl (T 0, 6, .inl (S 12))), (q 13, .inl (T 0, 6, .inl (S 13))), (q 14, .inl (T 0, 6, .inl (S 14))), (q 15, .inl (T 0, 6, .inl (S 15))), (q 16, .inl (T 0, 2, .inl (S 16)))] ++ oX1 T h qs Sh Hs) H := by rw [hHe]; exact hP
  have hS : va_S A s.heap H locs := by rw [hHe, hLe]; exact hS
  refine lv_iload_n hx hb dX7_ban_0 rfl (lv_at hl 1 rfl) ?_
  refine n_if_lt (a := ff) hx hb (by omega) dX7_ban_1 16 (by decide) ?_
  refine lv_iload_n hx hb dX7_ban_4 rfl (lv_at hl 1 rfl) ?_
  refine n_iconst hx hb 3 dX7_ban_5 (by decide) ?_
  refine n_icmp_ge (a := ff) (b := 3) (tgt := 16) hx hb (by omega) (by decide) dX7_ban_6 (by decide) (fun c_1 => by exfalso; omega) (fun c_2 => ?_)
  refine lv_iload_n hx hb dX7_ban_9 rfl (lv_at hl 2 rfl) ?_
  refine k_roS (As := [.int (nI mm)]) (rest := []) (wc := []) (d := 0) (v := bI (pBt (nI mm) 20)) cx (c_X7_isMessage l G T A (nI mm) ) (va_cwS 1 hts gX7_ban_X7_isMessage rfl rfl rfl (by decide +kernel) ⟨Nat.le_of_ble_eq_true rfl, Nat.le_of_ble_eq_true rfl⟩) (hP.sub (ws' := []) [] rfl) hK (hE.kept hS.2.1) rfl hl.1 rfl (Nat.le_of_ble_eq_true rfl) dX7_ban_10 ⟨Nat.le_of_ble_eq_true rfl, Nat.le_of_ble_eq_true rfl⟩ ?_
  refine b_if_ne (b := pBt (nI mm) 20) (tgt := 26) hx hb dX7_ban_13 (by decide) (fun c_3 => ?_) (fun c_4 => by exfalso; rw [pBt_T hm20 (by decide)] at c_4; cases c_4)
  refine lv_aload_n hx hb dX7_ban_26 rfl (lv_at hl 0 rfl) ?_
  refine va_get (D := G) (ci := 7) (v := .ref (h 0)) (C := RX7) (T := TX7) (N := 9) hx hb hts hinX7 hown hK hP 0 rfl rfl 2 (by decide) lk22 (fun _ h9 => h9) rfl dX7_ban_27 ?_
  refine lv_aload_n hx hb dX7_ban_30 rfl (lv_at hl 0 rfl) ?_
  refine va_get (D := G) (ci := 7) (v := .ref (q 0)) (C := RX7) (T := TX7) (N := 9) hx hb hts hinX7 hown hK hP 0 rfl rfl 0 (by decide) lk10 (fun _ h9 => h9) rfl dX7_ban_31 ?_
  refine k_rvV (As := [.ref (q 0)]) (rest := []) (wc := oX1 T h qs Sh Hs ++ oX3 T q S) (wr := oX7 w q qz h t gr u tr oc Sw) (w1 := oX1 T h qs (sc (sc Sh 1 (nI (hPo o n))) 2 (nI (hPn n))) (updS Hs (hPi o n) S) ++ oX3 T q S) (d := 2) (mc := 0) (ms := 0) (isC := [14, 15, 16, 17, 18, 19, 20, 21, 22, 23, 24, 25, 26, 27, 28, 29, 30, 31, 32, 33, 34, 35, 36, 37, 38, 39, 40, 41, 42, 43, 44, 45, 46, 47, 48, 49, 50, 51, 52, 53, 54, 55, 56, 57, 58, 59, 60, 61, 62, 63, 64, 65, 66, 67, 68, 69, 70, 71, 72, 73, 74, 75, 76, 77, 78, 79, 80, 81, 82, 83, 84, 85, 86, 87, 88, 89, 90, 91, 92, 93, 1, 2, 3, 4, 5, 6, 7, 8, 9, 10, 11, 12, 13]) (isR := [0]) cx (c_X1_push l G T H.size h qs Sh Hs q S o n (by first | assumption | rfl | omega) (by first | assumption | rfl | omega) (by omega) (by omega)) (cwV 1 hts gX7_ban_X1_push rfl rfl rfl (by decide +kernel) ⟨Nat.le_of_ble_eq_true rfl, Nat.le_of_ble_eq_true rfl⟩) ⟨hP, hD, hS, hA, hE, hK, rfl, rfl, rfl, rfl, by decide⟩ (va_recv hK hP (ci := 1) (q0 := 14) rfl rfl) rfl hl.1 rfl (Nat.le_of_ble_eq_true rfl) dX7_ban_34 ⟨Nat.le_of_ble_eq_true rfl, Nat.le_of_ble_eq_true rfl⟩ (fun H locs hP hD hS hz => ?_)
  have hP : va_P G vwCl ([(w 0, .inr (7, [.ref (q 0), .ref (qz 0), .ref (h 0), .ref (t 0), .ref (gr 0), .ref (u 0), .ref (tr 0), .ref (oc 0), .int (Sw 0 8)])), (q 0, .inr (3, [.int (S 0 0), .int (S 0 1), .int (S 0 2), .int (S 0 3), .ref (q 5), .ref (q 6), .ref (q 7), .ref (q 8), .ref (q 9), .ref (q 10), .ref (q 11), .ref (q 12), .ref (q 13), .ref (q 14), .ref (q 15), .ref (q 16)])), (q 5, .inl (T 0, 2, .inl (S 5))), (q 6, .inl (T 0, 20, .inl (S 6))), (q 7, .inl (T 0, 160, .inl (S 7))), (q 8, .inl (T 0, 20, .inl (S 8))), (q 9, .inl (T 0, 20, .inl (S 9))), (q 10, .inl (T 0, 20, .inl (S 10))), (q 11, .inl (T 0, 6, .inl (S 11))), (q 12, .inl (T 0, 6, .inl (S 12))), (q 13, .inl (T 0, 6, .inl (S 13))), (q 14, .inl (T 0, 6, .inl (S 14))), (q 15, .inl (T 0, 6, .inl (S 15))), (q 16, .inl (T 0, 2, .inl (S 16)))] ++ oX1 T h qs (sc (sc Sh 1 (nI (hPo o n))) 2 (nI (hPn n))) (updS Hs (hPi o n) S)) H := kN.sub (is := [0, 81, 82, 83, 84, 85, 86, 87, 88, 89, 90, 91, 92, 93, 1, 2, 3, 4, 5, 6, 7, 8, 9, 10, 11, 12, 13, 14, 15, 16, 17, 18, 19, 20, 21, 22, 23, 24, 25, 26, 27, 28, 29, 30, 31, 32, 33, 34, 35, 36, 37, 38, 39, 40, 41, 42, 43, 44, 45, 46, 47, 48, 49, 50, 51, 52, 53, 54, 55, 56, 57, 58, 59, 60, 61, 62, 63, 64, 65, 66, 67, 68, 69, 70, 71, 72, 73, 74, 75, 76, 77, 78, 79, 80]) hP rfl
  have hD : va_D A ([(w 0, .inr (7, [.ref (q 0), .ref (qz 0), .ref (h 0), .ref (t 0), .ref (gr 0), .ref (u 0), .ref (tr 0), .ref (oc 0), .int (Sw 0 8)])), (q 0, .inr (3, [.int (S 0 0), .int (S 0 1), .int (S 0 2), .int (S 0 3), .ref (q 5), .ref (q 6), .ref (q 7), .ref (q 8), .ref (q 9), .ref (q 10), .ref (q 11), .ref (q 12), .ref (q 13), .ref (q 14), .ref (q 15), .ref (q 16)])), (q 5, .inl (T 0, 2, .inl (S 5))), (q 6, .inl (T 0, 20, .inl (S 6))), (q 7, .inl (T 0, 160, .inl (S 7))), (q 8, .inl (T 0, 20, .inl (S 8))), (q 9, .inl (T 0, 20, .inl (S 9))), (q 10, .inl (T 0, 20, .inl (S 10))), (q 11, .inl (T 0, 6, .inl (S 11))), (q 12, .inl (T 0, 6, .inl (S 12))), (q 13, .inl (T 0, 6, .inl (S 13))), (q 14, .inl (T 0, 6, .inl (S 14))), (q 15, .inl (T 0, 6, .inl (S 15))), (q 16, .inl (T 0, 2, .inl (S 16)))] ++ oX1 T h qs (sc (sc Sh 1 (nI (hPo o n))) 2 (nI (hPn n))) (updS Hs (hPi o n) S)) := hD.sub [0, 81, 82, 83, 84, 85, 86, 87, 88, 89, 90, 91, 92, 93, 1, 2, 3, 4, 5, 6, 7, 8, 9, 10, 11, 12, 13, 14, 15, 16, 17, 18, 19, 20, 21, 22, 23, 24, 25, 26, 27, 28, 29, 30, 31, 32, 33, 34, 35, 36, 37, 38, 39, 40, 41, 42, 43, 44, 45, 46, 47, 48, 49, 50, 51, 52, 53, 54, 55, 56, 57, 58, 59, 60, 61, 62, 63, 64, 65, 66, 67, 68, 69, 70, 71, 72, 73, 74, 75, 76, 77, 78, 79, 80] rfl rfl
  refine lv_aload_n hx hb dX7_ban_37 rfl (lv_at hl 0 rfl) ?_
  refine va_get (D := G) (ci := 7) (v := .ref (q 0)) (C := RX7) (T := TX7) (N := 9) hx hb hts hinX7 hown hK hP 0 rfl rfl 0 (by decide) lk10 (fun _ h9 => h9) rfl dX7_ban_38 ?_
  refine va_get (D := G) (ci := 3) (v := .ref (q 8)) (C := RX3) (T := TX3) (N := 16) hx hb hts hinX3 hown hK hP 1 rfl rfl 7 (by decide) lk141 (fun _ h9 => h9) rfl dX7_ban_41 ?_
  refine lv_iload_n hx hb dX7_ban_44 rfl (lv_at hl 2 rfl) ?_
  refine lv_dup2_11 hx hb dX7_ban_45 rfl rfl ?_
  refine n_iald hx hb hK hP 5 0 rfl rfl mm (by omega) (by decide) dX7_ban_46 ?_
  refine n_iconst hx hb 1 dX7_ban_47 (by decide) ?_
  refine lv_iload_n hx hb dX7_ban_48 rfl (lv_at hl 1 rfl) ?_
  refine x_ishl hx hb dX7_ban_49 ?_
  refine lv_ixor hx hb dX7_ban_50 ?_
  refine n_iast hx hb hK hP hD hS 5 0 rfl rfl mm (by omega) (by decide) dX7_ban_51 (fun H locs hP hD hS => ?_)
  have hP : va_P G vwCl ([(w 0, .inr (7, [.ref (q 0), .ref (qz 0), .ref (h 0), .ref (t 0), .ref (gr 0), .ref (u 0), .ref (tr 0), .ref (oc 0), .int (Sw 0 8)])), (q 0, .inr (3, [.int (S 0 0), .int (S 0 1), .int (S 0 2), .int (S 0 3), .ref (q 5), .ref (q 6), .ref (q 7), .ref (q 8), .ref (q 9), .ref (q 10), .ref (q 11), .ref (q 12), .ref (q 13), .ref (q 14), .ref (q 15), .ref (q 16)])), (q 5, .inl (T 0, 2, .inl (S 5))), (q 6, .inl (T 0, 20, .inl (S 6))), (q 7, .inl (T 0, 160, .inl (S 7))), (q 8, .inl (T 0, 20, .inl (upd (S 8) mm (((S 8) mm) ^^^ (iShl (nI 1) (nI ff)))))), (q 9, .inl (T 0, 20, .inl (S 9))), (q 10, .inl (T 0, 20, .inl (S 10))), (q 11, .inl (T 0, 6, .inl (S 11))), (q 12, .inl (T 0, 6, .inl (S 12))), (q 13, .inl (T 0, 6, .inl (S 13))), (q 14, .inl (T 0, 6, .inl (S 14))), (q 15, .inl (T 0, 6, .inl (S 15))), (q 16, .inl (T 0, 2, .inl (S 16)))] ++ oX1 T h qs (sc (sc Sh 1 (nI (hPo o n))) 2 (nI (hPn n))) (updS Hs (hPi o n) S)) H := hP
  have hD : va_D A ([(w 0, .inr (7, [.ref (q 0), .ref (qz 0), .ref (h 0), .ref (t 0), .ref (gr 0), .ref (u 0), .ref (tr 0), .ref (oc 0), .int (Sw 0 8)])), (q 0, .inr (3, [.int (S 0 0), .int (S 0 1), .int (S 0 2), .int (S 0 3), .ref (q 5), .ref (q 6), .ref (q 7), .ref (q 8), .ref (q 9), .ref (q 10), .ref (q 11), .ref (q 12), .ref (q 13), .ref (q 14), .ref (q 15), .ref (q 16)])), (q 5, .inl (T 0, 2, .inl (S 5))), (q 6, .inl (T 0, 20, .inl (S 6))), (q 7, .inl (T 0, 160, .inl (S 7))), (q 8, .inl (T 0, 20, .inl (upd (S 8) mm (((S 8) mm) ^^^ (iShl (nI 1) (nI ff)))))), (q 9, .inl (T 0, 20, .inl (S 9))), (q 10, .inl (T 0, 20, .inl (S 10))), (q 11, .inl (T 0, 6, .inl (S 11))), (q 12, .inl (T 0, 6, .inl (S 12))), (q 13, .inl (T 0, 6, .inl (S 13))), (q 14, .inl (T 0, 6, .inl (S 14))), (q 15, .inl (T 0, 6, .inl (S 15))), (q 16, .inl (T 0, 2, .inl (S 16)))] ++ oX1 T h qs (sc (sc Sh 1 (nI (hPo o n))) 2 (nI (hPn n))) (updS Hs (hPi o n) S)) := hD
  refine lv_aload_n hx hb dX7_ban_52 rfl (lv_at hl 0 rfl) ?_
  refine va_get (D := G) (ci := 7) (v := .ref (q 0)) (C := RX7) (T := TX7) (N := 9) hx hb hts hinX7 hown hK hP 0 rfl rfl 0 (by decide) lk10 (fun _ h9 => h9) rfl dX7_ban_53 ?_
  refine va_get (D := G) (ci := 3) (v := .ref (q 8)) (C := RX3) (T := TX3) (N := 16) hx hb hts hinX3 hown hK hP 1 rfl rfl 7 (by decide) lk141 (fun _ h9 => h9) rfl dX7_ban_56 ?_
  refine lv_iload_n hx hb dX7_ban_59 rfl (lv_at hl 2 rfl) ?_
  refine n_iald hx hb hK hP 5 0 rfl rfl mm (by omega) (by decide) dX7_ban_60 ?_
  refine lv_iload_n hx hb dX7_ban_61 rfl (lv_at hl 1 rfl) ?_
  refine k_roS (As := [.int ((upd (S 8) mm (((S 8) mm) ^^^ (iShl (nI 1) (nI ff)))) mm), .int (nI ff)]) (rest := []) (wc := []) (d := 0) (v := bI (pHB ((upd (S 8) mm (((S 8) mm) ^^^ (iShl (nI 1) (nI ff)))) mm) (nI ff))) cx (c_X7_hasBit l G T A ((upd (S 8) mm (((S 8) mm) ^^^ (iShl (nI 1) (nI ff)))) mm) (nI ff) ) (va_cwS 2 hts gX7_ban_X7_hasBit rfl rfl rfl (by decide +kernel) ⟨Nat.le_of_ble_eq_true rfl, Nat.le_of_ble_eq_true rfl⟩) (hP.sub (ws' := []) [] rfl) hK (hE.kept hS.2.1) rfl hl.1 rfl (Nat.le_of_ble_eq_true rfl) dX7_ban_62 ⟨Nat.le_of_ble_eq_true rfl, Nat.le_of_ble_eq_true rfl⟩ ?_
  refine b_if_eq (b := pHB ((upd (S 8) mm (((S 8) mm) ^^^ (iShl (nI 1) (nI ff)))) mm) (nI ff)) (tgt := 72) hx hb dX7_ban_65 (by decide) (fun c_5 => ?_) (fun c_6 => ?_)
  · skip
    refine n_iconst hx hb 0 dX7_ban_72 (by decide) ?_
    subst hQ
    have e_7 : (upd (S 8) mm (((S 8) mm) ^^^ (iShl (nI 1) (nI ff)))) = upd (S 8) mm (S 8 mm ^^^ iShl (nI 1) (nI ff)) := (by first | rfl | simp [bI, c_2, c_3, c_5])
    rw [e_7] at hP hD
    have hP9 : va_P G vwCl (oX7 w q qz h t gr u tr oc Sw ++ oX3 T q (sa S 8 (upd (S 8) mm (S 8 mm ^^^ iShl (nI 1) (nI ff)))) ++ oX1 T h qs (sc (sc Sh 1 (nI (hPo o n))) 2 (nI (hPn n))) (updS Hs (hPi o n) S)) H := hP
    have hD9 : va_D A (oX7 w q qz h t gr u tr oc Sw ++ oX3 T q (sa S 8 (upd (S 8) mm (S 8 mm ^^^ iShl (nI 1) (nI ff)))) ++ oX1 T h qs (sc (sc Sh 1 (nI (hPo o n))) 2 (nI (hPn n))) (updS Hs (hPi o n) S)) := hD
    exact e_rwi hx hb hr hlocks hS (by have e9 := c_5; rw [pk_us] at e9; rw [e9]; rfl) hP9 hD9 dX7_ban_73
  · skip
    refine n_iconst hx hb 1 dX7_ban_68 (by decide) ?_
    refine lv_goto (tgt := 73) hx hb dX7_ban_69 (by decide) ?_
    subst hQ
    have e_8 : (upd (S 8) mm (((S 8) mm) ^^^ (iShl (nI 1) (nI ff)))) = upd (S 8) mm (S 8 mm ^^^ iShl (nI 1) (nI ff)) := (by first | rfl | simp [bI, c_2, c_3, c_6])
    rw [e_8] at hP hD
    have hP9 : va_P G vwCl (oX7 w q qz h t gr u tr oc Sw ++ oX3 T q (sa S 8 (upd (S 8) mm (S 8 mm ^^^ iShl (nI 1) (nI ff)))) ++ oX1 T h qs (sc (sc Sh 1 (nI (hPo o n))) 2 (nI (hPn n))) (updS Hs (hPi o n) S)) H := hP
    have hD9 : va_D A (oX7 w q qz h t gr u tr oc Sw ++ oX3 T q (sa S 8 (upd (S 8) mm (S 8 mm ^^^ iShl (nI 1) (nI ff)))) ++ oX1 T h qs (sc (sc Sh 1 (nI (hPo o n))) 2 (nI (hPn n))) (updS Hs (hPi o n) S)) := hD
    exact e_rwi hx hb hr hlocks hS (by have e9 := c_6; rw [pk_us] at e9; rw [e9]; rfl) hP9 hD9 dX7_ban_73
set_option maxHeartbeats 4000000 in
set_option maxRecDepth 100000 in
theorem c_X7_ban_t (l : Launch) (hst : l.stackTraces = false) (G : va_G) (T : Nat → ClassId) (sz : Nat) (w : Nat → Nat) (q : Nat → Nat) (qz : Nat → Nat) (h : Nat → Nat) (t : Nat → Nat) (gr : Nat → Nat) (u : Nat → Nat) (tr : Nat → Nat) (oc : Nat → Nat) (Sw : Nat → Nat → Int32) (x : Int32) (y : Int32) (hbx : pBt x 3 = false) : RX l yX7_ban wsX7_ban 7 G T sz (oX7 w q qz h t gr u tr oc Sw) [.ref (w 0), .int x, .int y] (.inr "java/lang/IndexOutOfBoundsException") (oX7 w q qz h t gr u tr oc Sw) := by
  refine vx_ofW (cc := cX7_ban) (maxL := 3) (ret := (some .int)) (by decide) rfl ?_
  intro p e s m args below meth c s₁ B hml htab hv
  obtain ⟨ha, ⟨hsz, hP, hK, hD0, hE0⟩, hC⟩ := hv
  have hx := B.exec
  have hb := B.bytes
  have hr := B.returns
  have hlocks := B.notSynchronized
  have hts := atoms_spec (ws := wsX7_ban) B.pre
  have hown : s.vm.findClass RX7 = some m.cls := findClass_of_methodNamed B.named
  have cx : CallFix p m c cX7_ban 3 s args wsX7_ban RX7 := ⟨hx, hb, hml, hown, hts⟩
  subst hsz
  have hD := hD0.self (sz := s.heap.size)
  generalize hAe : va_A (oX7 w q qz h t gr u tr oc Sw) s.heap.size = A at hD hE0 ⊢
  have hE : gE A s s.heap := hE0
  have hA : ∀ q : Nat, s.heap.size ≤ q → A q := fun q h => by rw [← hAe]; exact Or.inr h
  have hS : va_S A s.heap s.heap [] := va_S.rf
  refine w_entry ha (Nat.le_of_ble_eq_true rfl) (fun ls hl => ?_)
  refine w_q (fun Q0 hQ => ?_)
  have hl : lv_has ls 3 [(0, .ref (w 0)), (1, .int x), (2, .int y)] := hl
  have hP : va_P G vwCl [(w 0, .inr (7, [.ref (q 0), .ref (qz 0), .ref (h 0), .ref (t 0), .ref (gr 0), .ref (u 0), .ref (tr 0), .ref (oc 0), .int (Sw 0 8)]))] s.heap := hP
  have hD : va_D A [(w 0, .inr (7, [.ref (q 0), .ref (qz 0), .ref (h 0), .ref (t 0), .ref (gr 0), .ref (u 0), .ref (tr 0), .ref (oc 0), .int (Sw 0 8)]))] := hD
  skip
  refine w_h (fun H locs hHe hLe => ?_)
  have hP : va_P G vwCl [(w 0, .inr (7, [.ref (q 0), .ref (qz 0), .ref (h 0), .ref (t 0), .ref (gr 0), .ref (u 0), .ref (tr 0), .ref (oc 0), .int (Sw 0 8)]))] H := by rw [hHe]; exact hP
  have hS : va_S A s.heap H locs := by rw [hHe, hLe]; exact hS
  refine lv_iload_n hx hb dX7_ban_0 rfl (lv_at hl 1 rfl) ?_
  refine lv_if_lt (tgt := 16) hx hb dX7_ban_1 (by decide) (fun c_1 => ?_) (fun c_2 => ?_)
  · skip
    subst hQ
    have hP9 : va_P G vwCl (oX7 w q qz h t gr u tr oc Sw) H := hP
    have hD9 : va_D A (oX7 w q qz h t gr u tr oc Sw) := hD
    exact e_thr hx hb hst (own := RX7) (cls := "java/lang/IndexOutOfBoundsException") "no such master or message" ["java/lang/RuntimeException", "java/lang/Exception"] (ik := 69) (is := 139) (ic := 73) hown (by decide +kernel) (by decide +kernel) (hts (.classLink RX7 69 "java/lang/IndexOutOfBoundsException") (by decide +kernel)) (hts (.initialized "java/lang/IndexOutOfBoundsException") (by decide +kernel)) (hE.2.1 (RX7, 139, "no such master or message") (by decide +kernel)) (xt_Z (is := 0) (ik := 0) (text := "") hC (by decide +kernel) (by decide +kernel) (fun w9 hw9 => hts w9 (List.mem_cons_of_mem _ (List.mem_append_right _ hw9)))) (by decide +kernel) hE hS (hl.1.trans hml.symm) dX7_ban_16 dX7_ban_19 dX7_ban_20 dX7_ban_22 dX7_ban_25 htab ⟨by decide, Nat.le_of_ble_eq_true rfl, Nat.le_of_ble_eq_true rfl, Nat.le_of_ble_eq_true rfl⟩ hlocks ⟨rfl, rfl⟩ rfl hP9 hD9
  · skip
    refine lv_iload_n hx hb dX7_ban_4 rfl (lv_at hl 1 rfl) ?_
    refine n_iconst hx hb 3 dX7_ban_5 (by decide) ?_
    refine lv_icmp_ge (tgt := 16) hx hb dX7_ban_6 (by decide) (fun c_3 => ?_) (fun c_4 => by exfalso; exact pBt_Y hbx (by assumption) c_4)
    subst hQ
    have hP9 : va_P G vwCl (oX7 w q qz h t gr u tr oc Sw) H := hP
    have hD9 : va_D A (oX7 w q qz h t gr u tr oc Sw) := hD
    exact e_thr hx hb hst (own := RX7) (cls := "java/lang/IndexOutOfBoundsException") "no such master or message" ["java/lang/RuntimeException", "java/lang/Exception"] (ik := 69) (is := 139) (ic := 73) hown (by decide +kernel) (by decide +kernel) (hts (.classLink RX7 69 "java/lang/IndexOutOfBoundsException") (by decide +kernel)) (hts (.initialized "java/lang/IndexOutOfBoundsException") (by decide +kernel)) (hE.2.1 (RX7, 139, "no such master or message") (by decide +kernel)) (xt_Z (is := 0) (ik := 0) (text := "") hC (by decide +kernel) (by decide +kernel) (fun w9 hw9 => hts w9 (List.mem_cons_of_mem _ (List.mem_append_right _ hw9)))) (by decide +kernel) hE hS (hl.1.trans hml.symm) dX7_ban_16 dX7_ban_19 dX7_ban_20 dX7_ban_22 dX7_ban_25 htab ⟨by decide, Nat.le_of_ble_eq_true rfl, Nat.le_of_ble_eq_true rfl, Nat.le_of_ble_eq_true rfl⟩ hlocks ⟨rfl, rfl⟩ rfl hP9 hD9
set_option maxHeartbeats 4000000 in
set_option maxRecDepth 100000 in
theorem c_X7_ban_t2 (l : Launch) (hst : l.stackTraces = false) (G : va_G) (T : Nat → ClassId) (sz : Nat) (w : Nat → Nat) (q : Nat → Nat) (qz : Nat → Nat) (h : Nat → Nat) (t : Nat → Nat) (gr : Nat → Nat) (u : Nat → Nat) (tr : Nat → Nat) (oc : Nat → Nat) (Sw : Nat → Nat → Int32) (ff : Nat) (y : Int32) (hf3 : ff < 3) (hby : pBt y 20 = false) : RX l yX7_ban wsX7_ban 7 G T sz (oX7 w q qz h t gr u tr oc Sw) [.ref (w 0), .int (nI ff), .int y] (.inr "java/lang/IndexOutOfBoundsException") (oX7 w q qz h t gr u tr oc Sw) := by
  refine vx_ofW (cc := cX7_ban) (maxL := 3) (ret := (some .int)) (by decide) rfl ?_
  intro p e s m args below meth c s₁ B hml htab hv
  obtain ⟨ha, ⟨hsz, hP, hK, hD0, hE0⟩, hC⟩ := hv
  have hx := B.exec
  have hb := B.bytes
  have hr := B.returns
  have hlocks := B.notSynchronized
  have hts := atoms_spec (ws := wsX7_ban) B.pre
  have hown : s.vm.findClass RX7 = some m.cls := findClass_of_methodNamed B.named
  have cx : CallFix p m c cX7_ban 3 s args wsX7_ban RX7 := ⟨hx, hb, hml, hown, hts⟩
  subst hsz
  have hD := hD0.self (sz := s.heap.size)
  generalize hAe : va_A (oX7 w q qz h t gr u tr oc Sw) s.heap.size = A at hD hE0 ⊢
  have hE : gE A s s.heap := hE0
  have hA : ∀ q : Nat, s.heap.size ≤ q → A q := fun q h => by rw [← hAe]; exact Or.inr h
  have hS : va_S A s.heap s.heap [] := va_S.rf
  refine w_entry ha (Nat.le_of_ble_eq_true rfl) (fun ls hl => ?_)
  refine w_q (fun Q0 hQ => ?_)
  have hl : lv_has ls 3 [(0, .ref (w 0)), (1, .int (nI ff)), (2, .int y)] := hl
  have hP : va_P G vwCl [(w 0, .inr (7, [.ref (q 0), .ref (qz 0), .ref (h 0), .ref (t 0), .ref (gr 0), .ref (u 0), .ref (tr 0), .ref (oc 0), .int (Sw 0 8)]))] s.heap := hP
  have hD : va_D A [(w 0, .inr (7, [.ref (q 0), .ref (qz 0), .ref (h 0), .ref (t 0), .ref (gr 0), .ref (u 0), .ref (tr 0), .ref (oc 0), .int (Sw 0 8)]))] := hD
  skip
  refine w_h (fun H locs hHe hLe => ?_)
  have hP : va_P G vwCl [(w 0, .inr (7, [.ref (q 0), .ref (qz 0), .ref (h 0), .ref (t 0), .ref (gr 0), .ref (u 0), .ref (tr 0), .ref (oc 0), .int (Sw 0 8)]))] H := by rw [hHe]; exact hP
  have hS : va_S A s.heap H locs := by rw [hHe, hLe]; exact hS
  refine lv_iload_n hx hb dX7_ban_0 rfl (lv_at hl 1 rfl) ?_
  refine n_if_lt (a := ff) hx hb (by omega) dX7_ban_1 16 (by decide) ?_
  refine lv_iload_n hx hb dX7_ban_4 rfl (lv_at hl 1 rfl) ?_
  refine n_iconst hx hb 3 dX7_ban_5 (by decide) ?_
  refine n_icmp_ge (a := ff) (b := 3) (tgt := 16) hx hb (by omega) (by decide) dX7_ban_6 (by decide) (fun c_1 => by exfalso; omega) (fun c_2 => ?_)
  refine lv_iload_n hx hb dX7_ban_9 rfl (lv_at hl 2 rfl) ?_
  refine k_roS (As := [.int y]) (rest := []) (wc := []) (d := 0) (v := bI (pBt y 20)) cx (c_X7_isMessage l G T A y ) (va_cwS 1 hts gX7_ban_X7_isMessage rfl rfl rfl (by decide +kernel) ⟨Nat.le_of_ble_eq_true rfl, Nat.le_of_ble_eq_true rfl⟩) (hP.sub (ws' := []) [] rfl) hK (hE.kept hS.2.1) rfl hl.1 rfl (Nat.le_of_ble_eq_true rfl) dX7_ban_10 ⟨Nat.le_of_ble_eq_true rfl, Nat.le_of_ble_eq_true rfl⟩ ?_
  refine b_if_ne (b := pBt y 20) (tgt := 26) hx hb dX7_ban_13 (by decide) (fun c_3 => by exfalso; rw [hby] at c_3; cases c_3) (fun c_4 => ?_)
  subst hQ
  have hP9 : va_P G vwCl (oX7 w q qz h t gr u tr oc Sw) H := hP
  have hD9 : va_D A (oX7 w q qz h t gr u tr oc Sw) := hD
  exact e_thr hx hb hst (own := RX7) (cls := "java/lang/IndexOutOfBoundsException") "no such master or message" ["java/lang/RuntimeException", "java/lang/Exception"] (ik := 69) (is := 139) (ic := 73) hown (by decide +kernel) (by decide +kernel) (hts (.classLink RX7 69 "java/lang/IndexOutOfBoundsException") (by decide +kernel)) (hts (.initialized "java/lang/IndexOutOfBoundsException") (by decide +kernel)) (hE.2.1 (RX7, 139, "no such master or message") (by decide +kernel)) (xt_Z (is := 0) (ik := 0) (text := "") hC (by decide +kernel) (by decide +kernel) (fun w9 hw9 => hts w9 (List.mem_cons_of_mem _ (List.mem_append_right _ hw9)))) (by decide +kernel) hE hS (hl.1.trans hml.symm) dX7_ban_16 dX7_ban_19 dX7_ban_20 dX7_ban_22 dX7_ban_25 htab ⟨by decide, Nat.le_of_ble_eq_true rfl, Nat.le_of_ble_eq_true rfl, Nat.le_of_ble_eq_true rfl⟩ hlocks ⟨rfl, rfl⟩ rfl hP9 hD9
set_option maxHeartbeats 4000000 in
set_option maxRecDepth 100000 in
theorem c_X7_bell (l : Launch) (G : va_G) (T : Nat → ClassId) (sz : Nat) (w : Nat → Nat) (q : Nat → Nat) (qz : Nat → Nat) (h : Nat → Nat) (t : Nat → Nat) (gr : Nat → Nat) (u : Nat → Nat) (tr : Nat → Nat) (oc : Nat → Nat) (Sw : Nat → Nat → Int32) (S : Nat → Nat → Int32) (Sh : Nat → Nat → Int32) (qs : Nat → Nat → Nat) (Hs : Nat → Nat → Nat → Int32) (o : Nat) (n : Nat) (ho : Sh 0 1 = nI o) (hn : Sh 0 2 = nI n) (ho6 : o < 6) (hn6 : n ≤ 6) : RWi l yX7_bell wsX7_bell 3 0 0 G T sz (oX7 w q qz h t gr u tr oc Sw ++ oX3 T q S ++ oX1 T h qs Sh Hs) [.ref (w 0)] (S 0 0 + nI 1) (oX7 w q qz h t gr u tr oc Sw ++ oX3 T q (sa (sc (sc S 0 (S 0 0 + nI 1)) 3 (nI 0)) 12 (pBM (S 0 0 + nI 1) (S 12))) ++ oX1 T h qs (sc (sc Sh 1 (nI (hPo o n))) 2 (nI (hPn n))) (updS Hs (hPi o n) S)) := by
  refine Met.ofW (cc := cX7_bell) (maxL := 1) (ret := (some .int)) (by decide) rfl ?_
  intro p e s m args below meth c s₁ B hml hv
  obtain ⟨ha, hsz, hP, hK, hD0, hE0⟩ := hv
  have hx := B.exec
  have hb := B.bytes
  have hr := B.returns
  have hlocks := B.notSynchronized
  have hts := atoms_spec (ws := wsX7_bell) B.pre
  have hown : s.vm.findClass RX7 = some m.cls := findClass_of_methodNamed B.named
  have cx : CallFix p m c cX7_bell 1 s args wsX7_bell RX7 := ⟨hx, hb, hml, hown, hts⟩
  subst hsz
  have hD := hD0.self (sz := s.heap.size)
  generalize hAe : va_A (oX7 w q qz h t gr u tr oc Sw ++ oX3 T q S ++ oX1 T h qs Sh Hs) s.heap.size = A at hD hE0 ⊢
  have hE : gE A s s.heap := hE0
  have hA : ∀ q : Nat, s.heap.size ≤ q → A q := fun q h => by rw [← hAe]; exact Or.inr h
  have hS : va_S A s.heap s.heap [] := va_S.rf
  refine w_entry ha (Nat.le_of_ble_eq_true rfl) (fun ls hl => ?_)
  refine w_q (fun Q0 hQ => ?_)
  have lk22 := hts (.fieldLink RX7 22 "WhistleTunes" "history" "LWhistleTunes$History;") (by decide +kernel)
  have hinX7 : ∀ w ∈ wsX70, w ∈ wsX7_bell := by decide +kernel
  have lk10 := hts (.fieldLink RX7 10 "WhistleTunes" "school" "LWhistleTunes$School;") (by decide +kernel)
  have lk151 := hts (.fieldLink RX7 151 "WhistleTunes$School" "night" "I") (by decide +kernel)
  have hinX3 : ∀ w ∈ wsX30, w ∈ wsX7_bell := by decide +kernel
  have hl : lv_has ls 1 [(0, .ref (w 0))] := hl
  have hP : va_P G vwCl ([(w 0, .inr (7, [.ref (q 0), .ref (qz 0), .ref (h 0), .ref (t 0), .ref (gr 0), .ref (u 0), .ref (tr 0), .ref (oc 0), .int (Sw 0 8)])), (q 0, .inr (3, [.int (S 0 0), .int (S 0 1), .int (S 0 2), .int (S 0 3), .ref (q 5), .ref (q 6), .ref (q 7), .ref (q 8), .ref (q 9), .ref (q 10), .ref (q 11), .ref (q 12), .ref (q 13), .ref (q 14), .ref (q 15), .ref (q 16)])), (q 5, .inl (T 0, 2, .inl (S 5))), (q 6, .inl (T 0, 20, .inl (S 6))), (q 7, .inl (T 0, 160, .inl (S 7))), (q 8, .inl (T 0, 20, .inl (S 8))), (q 9, .inl (T 0, 20, .inl (S 9))), (q 10, .inl (T 0, 20, .inl (S 10))), (q 11, .inl (T 0, 6, .inl (S 11))), (q 12, .inl (T 0, 6, .inl (S 12))), (q 13, .inl (T 0, 6, .inl (S 13))), (q 14, .inl (T 0, 6, .inl (S 14))), (q 15, .inl (T 0, 6, .inl (S 15))), (q 16, .inl (T 0, 2, .inl (S 16)))] ++ oX1 T h qs Sh Hs) s.heap := hP
  have hD : va_D A ([(w 0, .inr (7, [.ref (q 0), .ref (qz 0), .ref (h 0), .ref (t 0), .ref (gr 0), .ref (u 0), .ref (tr 0), .ref (oc 0), .int (Sw 0 8)])), (q 0, .inr (3, [.int (S 0 0), .int (S 0 1), .int (S 0 2), .int (S 0 3), .ref (q 5), .ref (q 6), .ref (q 7), .ref (q 8), .ref (q 9), .ref (q 10), .ref (q 11), .ref (q 12), .ref (q 13), .ref (q 14), .ref (q 15), .ref (q 16)])), (q 5, .inl (T 0, 2, .inl (S 5))), (q 6, .inl (T 0, 20, .inl (S 6))), (q 7, .inl (T 0, 160, .inl (S 7))), (q 8, .inl (T 0, 20, .inl (S 8))), (q 9, .inl (T 0, 20, .inl (S 9))), (q 10, .inl (T 0, 20, .inl (S 10))), (q 11, .inl (T 0, 6, .inl (S 11))), (q 12, .inl (T 0, 6, .inl (S 12))), (q 13, .inl (T 0, 6, .inl (S 13))), (q 14, .inl (T 0, 6, .inl (S 14))), (q 15, .inl (T 0, 6, .inl (S 15))), (q 16, .inl (T 0, 2, .inl (S 16)))] ++ oX1 T h qs Sh Hs) := hD
  skip
  refine w_h (fun H locs hHe hLe => ?_)
  have hP : va_P G vwCl ([(w 0, .inr (7, [.ref (q 0), .ref (qz 0), .ref (h 0), .ref (t 0), .ref (gr 0), .ref (u 0), .ref (tr 0), .ref (oc 0), .int (Sw 0 8)])), (q 0, .inr (3, [.int (S 0 0), .int (S 0 1), .int (S 0 2), .int (S 0 3), .ref (q 5), .ref (q 6), .ref (q 7), .ref (q 8), .ref (q 9), .ref (q 10), .ref (q 11), .ref (q 12), .ref (q 13), .ref (q 14), .ref (q 15), .ref (q 16)])), (q 5, .inl (T 0, 2, .inl (S 5))), (q 6, .inl (T 0, 20, .inl (S 6))), (q 7, .inl (T 0, 160, .inl (S 7))), (q 8, .inl (T 0, 20, .inl (S 8))), (q 9, .inl (T 0, 20, .inl (S 9))), (q 10, .inl (T 0, 20, .inl (S 10))), (q 11, .inl (T 0, 6, .inl (S 11))), (q 12, .inl (T 0, 6, .inl (S 12))), (q 13, .inl (T 0, 6, .inl (S 13))), (q 14, .inl (T 0, 6, .inl (S 14))), (q 15, .inl (T 0, 6, .inl (S 15))), (q 16, .inl (T 0, 2, .inl (S 16)))] ++ oX1 T h qs Sh Hs) H := by rw [hHe]; exact hP
  have hS : va_S A s.heap H locs := by rw [hHe, hLe]; exact hS
  refine lv_aload_n hx hb dX7_bell_0 rfl (lv_at hl 0 rfl) ?_
  refine va_get (D := G) (ci := 7) (v := .ref (h 0)) (C := RX7) (T := TX7) (N := 9) hx hb hts hinX7 hown hK hP 0 rfl rfl 2 (by decide) lk22 (fun _ h9 => h9) rfl dX7_bell_1 ?_
  refine lv_aload_n hx hb dX7_bell_4 rfl (lv_at hl 0 rfl) ?_
  refine va_get (D := G) (ci := 7) (v := .ref (q 0)) (C := RX7) (T := TX7) (N := 9) hx hb hts hinX7 hown hK hP 0 rfl rfl 0 (by decide) lk10 (fun _ h9 => h9) rfl dX7_bell_5 ?_
  refine k_rvV (As := [.ref (q 0)]) (rest := []) (wc := oX1 T h qs Sh Hs ++ oX3 T q S) (wr := oX7 w q qz h t gr u tr oc Sw) (w1 := oX1 T h qs (sc (sc Sh 1 (nI (hPo o n))) 2 (nI (hPn n))) (updS Hs (hPi o n) S) ++ oX3 T q S) (d := 2) (mc := 0) (ms := 0) (isC := [14, 15, 16, 17, 18, 19, 20, 21, 22, 23, 24, 25, 26, 27, 28, 29, 30, 31, 32, 33, 34, 35, 36, 37, 38, 39, 40, 41, 42, 43, 44, 45, 46, 47, 48, 49, 50, 51, 52, 53, 54, 55, 56, 57, 58, 59, 60, 61, 62, 63, 64, 65, 66, 67, 68, 69, 70, 71, 72, 73, 74, 75, 76, 77, 78, 79, 80, 81, 82, 83, 84, 85, 86, 87, 88, 89, 90, 91, 92, 93, 1, 2, 3, 4, 5, 6, 7, 8, 9, 10, 11, 12, 13]) (isR := [0]) cx (c_X1_push l G T H.size h qs Sh Hs q S o n (by first | assumption | rfl | omega) (by first | assumption | rfl | omega) (by omega) (by omega)) (cwV 1 hts gX7_bell_X1_push rfl rfl rfl (by decide +kernel) ⟨Nat.le_of_ble_eq_true rfl, Nat.le_of_ble_eq_true rfl⟩) ⟨hP, hD, hS, hA, hE, hK, rfl, rfl, rfl, rfl, by decide⟩ (va_recv hK hP (ci := 1) (q0 := 14) rfl rfl) rfl hl.1 rfl (Nat.le_of_ble_eq_true rfl) dX7_bell_8 ⟨Nat.le_of_ble_eq_true rfl, Nat.le_of_ble_eq_true rfl⟩ (fun H locs hP hD hS hz => ?_)
  have hP : va_P G vwCl ([(w 0, .inr (7, [.ref (q 0), .ref (qz 0), .ref (h 0), .ref (t 0), .ref (gr 0), .ref (u 0), .ref (tr 0), .ref (oc 0), .int (Sw 0 8)])), (q 0, .inr (3, [.int (S 0 0), .int (S 0 1), .int (S 0 2), .int (S 0 3), .ref (q 5), .ref (q 6), .ref (q 7), .ref (q 8), .ref (q 9), .ref (q 10), .ref (q 11), .ref (q 12), .ref (q 13), .ref (q 14), .ref (q 15), .ref (q 16)])), (q 5, .inl (T 0, 2, .inl (S 5))), (q 6, .inl (T 0, 20, .inl (S 6))), (q 7, .inl (T 0, 160, .inl (S 7))), (q 8, .inl (T 0, 20, .inl (S 8))), (q 9, .inl (T 0, 20, .inl (S 9))), (q 10, .inl (T 0, 20, .inl (S 10))), (q 11, .inl (T 0, 6, .inl (S 11))), (q 12, .inl (T 0, 6, .inl (S 12))), (q 13, .inl (T 0, 6, .inl (S 13))), (q 14, .inl (T 0, 6, .inl (S 14))), (q 15, .inl (T 0, 6, .inl (S 15))), (q 16, .inl (T 0, 2, .inl (S 16)))] ++ oX1 T h qs (sc (sc Sh 1 (nI (hPo o n))) 2 (nI (hPn n))) (updS Hs (hPi o n) S)) H := kN.sub (is := [0, 81, 82, 83, 84, 85, 86, 87, 88, 89, 90, 91, 92, 93, 1, 2, 3, 4, 5, 6, 7, 8, 9, 10, 11, 12, 13, 14, 15, 16, 17, 18, 19, 20, 21, 22, 23, 24, 25, 26, 27, 28, 29, 30, 31, 32, 33, 34, 35, 36, 37, 38, 39, 40, 41, 42, 43, 44, 45, 46, 47, 48, 49, 50, 51, 52, 53, 54, 55, 56, 57, 58, 59, 60, 61, 62, 63, 64, 65, 66, 67, 68, 69, 70, 71, 72, 73, 74, 75, 76, 77, 78, 79, 80]) hP rfl
  have hD : va_D A ([(w 0, .inr (7, [.ref (q 0), .ref (qz 0), .ref (h 0), .ref (t 0), .ref (gr 0), .ref (u 0), .ref (tr 0), .ref (oc 0), .int (Sw 0 8)])), (q 0, .inr (3, [.int (S 0 0), .int (S 0 1), .int (S 0 2), .int (S 0 3), .ref (q 5), .ref (q 6), .ref (q 7), .ref (q 8), .ref (q 9), .ref (q 10), .ref (q 11), .ref (q 12), .ref (q 13), .ref (q 14), .ref (q 15), .ref (q 16)])), (q 5, .inl (T 0, 2, .inl (S 5))), (q 6, .inl (T 0, 20, .inl (S 6))), (q 7, .inl (T 0, 160, .inl (S 7))), (q 8, .inl (T 0, 20, .inl (S 8))), (q 9, .inl (T 0, 20, .inl (S 9))), (q 10, .inl (T 0, 20, .inl (S 10))), (q 11, .inl (T 0, 6, .inl (S 11))), (q 12, .inl (T 0, 6, .inl (S 12))), (q 13, .inl (T 0, 6, .inl (S 13))), (q 14, .inl (T 0, 6, .inl (S 14))), (q 15, .inl (T 0, 6, .inl (S 15))), (q 16, .inl (T 0, 2, .inl (S 16)))] ++ oX1 T h qs (sc (sc Sh 1 (nI (hPo o n))) 2 (nI (hPn n))) (updS Hs (hPi o n) S)) := hD.sub [0, 81, 82, 83, 84, 85, 86, 87, 88, 89, 90, 91, 92, 93, 1, 2, 3, 4, 5, 6, 7, 8, 9, 10, 11, 12, 13, 14, 15, 16, 17, 18, 19, 20, 21, 22, 23, 24, 25, 26, 27, 28, 29, 30, 31, 32, 33, 34, 35, 36, 37, 38, 39, 40, 41, 42, 43, 44, 45, 46, 47, 48, 49, 50, 51, 52, 53, 54, 55, 56, 57, 58, 59, 60, 61, 62, 63, 64, 65, 66, 67, 68, 69, 70, 71, 72, 73, 74, 75, 76, 77, 78, 79, 80] rfl rfl
  refine lv_aload_n hx hb dX7_bell_11 rfl (lv_at hl 0 rfl) ?_
  refine va_get (D := G) (ci := 7) (v := .ref (q 0)) (C := RX7) (T := TX7) (N := 9) hx hb hts hinX7 hown hK hP 0 rfl rfl 0 (by decide) lk10 (fun _ h9 => h9) rfl dX7_bell_12 ?_
  refine k_rvV (As := []) (rest := []) (wc := oX3 T q S) (wr := oX7 w q qz h t gr u tr oc Sw ++ oX1 T h qs (sc (sc Sh 1 (nI (hPo o n))) 2 (nI (hPn n))) (updS Hs (hPi o n) S)) (w1 := oX3 T q (sa (sc (sc S 0 (S 0 0 + nI 1)) 3 (nI 0)) 12 (pBM (S 0 0 + nI 1) (S 12)))) (d := 0) (mc := 0) (ms := 0) (isC := [1, 2, 3, 4, 5, 6, 7, 8, 9, 10, 11, 12, 13]) (isR := [0, 14, 15, 16, 17, 18, 19, 20, 21, 22, 23, 24, 25, 26, 27, 28, 29, 30, 31, 32, 33, 34, 35, 36, 37, 38, 39, 40, 41, 42, 43, 44, 45, 46, 47, 48, 49, 50, 51, 52, 53, 54, 55, 56, 57, 58, 59, 60, 61, 62, 63, 64, 65, 66, 67, 68, 69, 70, 71, 72, 73, 74, 75, 76, 77, 78, 79, 80, 81, 82, 83, 84, 85, 86, 87, 88, 89, 90, 91, 92, 93]) cx (c_X3_beginNight l G T H.size q S ) (cwV 0 hts gX7_bell_X3_beginNight rfl rfl rfl (by decide +kernel) ⟨Nat.le_of_ble_eq_true rfl, Nat.le_of_ble_eq_true rfl⟩) ⟨hP, hD, hS, hA, hE, hK, rfl, rfl, rfl, rfl, by decide⟩ (va_recv hK hP (ci := 3) (q0 := 1) rfl rfl) rfl hl.1 rfl (Nat.le_of_ble_eq_true rfl) dX7_bell_15 ⟨Nat.le_of_ble_eq_true rfl, Nat.le_of_ble_eq_true rfl⟩ (fun H locs hP hD hS hz => ?_)
  have hP : va_P G vwCl ([(w 0, .inr (7, [.ref (q 0), .ref (qz 0), .ref (h 0), .ref (t 0), .ref (gr 0), .ref (u 0), .ref (tr 0), .ref (oc 0), .int (Sw 0 8)])), (q 0, .inr (3, [.int ((S 0 0) + nI 1), .int (S 0 1), .int (S 0 2), .int (nI 0), .ref (q 5), .ref (q 6), .ref (q 7), .ref (q 8), .ref (q 9), .ref (q 10), .ref (q 11), .ref (q 12), .ref (q 13), .ref (q 14), .ref (q 15), .ref (q 16)])), (q 5, .inl (T 0, 2, .inl (S 5))), (q 6, .inl (T 0, 20, .inl (S 6))), (q 7, .inl (T 0, 160, .inl (S 7))), (q 8, .inl (T 0, 20, .inl (S 8))), (q 9, .inl (T 0, 20, .inl (S 9))), (q 10, .inl (T 0, 20, .inl (S 10))), (q 11, .inl (T 0, 6, .inl (S 11))), (q 12, .inl (T 0, 6, .inl (pBM ((S 0 0) + nI 1) ((S 12))))), (q 13, .inl (T 0, 6, .inl (S 13))), (q 14, .inl (T 0, 6, .inl (S 14))), (q 15, .inl (T 0, 6, .inl (S 15))), (q 16, .inl (T 0, 2, .inl (S 16)))] ++ oX1 T h qs (sc (sc Sh 1 (nI (hPo o n))) 2 (nI (hPn n))) (updS Hs (hPi o n) S)) H := kN.sub (is := [0, 81, 82, 83, 84, 85, 86, 87, 88, 89, 90, 91, 92, 93, 1, 2, 3, 4, 5, 6, 7, 8, 9, 10, 11, 12, 13, 14, 15, 16, 17, 18, 19, 20, 21, 22, 23, 24, 25, 26, 27, 28, 29, 30, 31, 32, 33, 34, 35, 36, 37, 38, 39, 40, 41, 42, 43, 44, 45, 46, 47, 48, 49, 50, 51, 52, 53, 54, 55, 56, 57, 58, 59, 60, 61, 62, 63, 64, 65, 66, 67, 68, 69, 70, 71, 72, 73, 74, 75, 76, 77, 78, 79, 80]) hP rfl
  have hD : va_D A ([(w 0, .inr (7, [.ref (q 0), .ref (qz 0), .ref (h 0), .ref (t 0), .ref (gr 0), .ref (u 0), .ref (tr 0), .ref (oc 0), .int (Sw 0 8)])), (q 0, .inr (3, [.int ((S 0 0) + nI 1), .int (S 0 1), .int (S 0 2), .int (nI 0), .ref (q 5), .ref (q 6), .ref (q 7), .ref (q 8), .ref (q 9), .ref (q 10), .ref (q 11), .ref (q 12), .ref (q 13), .ref (q 14), .ref (q 15), .ref (q 16)])), (q 5, .inl (T 0, 2, .inl (S 5))), (q 6, .inl (T 0, 20, .inl (S 6))), (q 7, .inl (T 0, 160, .inl (S 7))), (q 8, .inl (T 0, 20, .inl (S 8))), (q 9, .inl (T 0, 20, .inl (S 9))), (q 10, .inl (T 0, 20, .inl (S 10))), (q 11, .inl (T 0, 6, .inl (S 11))), (q 12, .inl (T 0, 6, .inl (pBM ((S 0 0) + nI 1) ((S 12))))), (q 13, .inl (T 0, 6, .inl (S 13))), (q 14, .inl (T 0, 6, .inl (S 14))), (q 15, .inl (T 0, 6, .inl (S 15))), (q 16, .inl (T 0, 2, .inl (S 16)))] ++ oX1 T h qs (sc (sc Sh 1 (nI (hPo o n))) 2 (nI (hPn n))) (updS Hs (hPi o n) S)) := hD.sub [0, 81, 82, 83, 84, 85, 86, 87, 88, 89, 90, 91, 92, 93, 1, 2, 3, 4, 5, 6, 7, 8, 9, 10, 11, 12, 13, 14, 15, 16, 17, 18, 19, 20, 21, 22, 23, 24, 25, 26, 27, 28, 29, 30, 31, 32, 33, 34, 35, 36, 37, 38, 39, 40, 41, 42, 43, 44, 45, 46, 47, 48, 49, 50, 51, 52, 53, 54, 55, 56, 57, 58, 59, 60, 61, 62, 63, 64, 65, 66, 67, 68, 69, 70, 71, 72, 73, 74, 75, 76, 77, 78, 79, 80] rfl rfl
  refine lv_aload_n hx hb dX7_bell_18 rfl (lv_at hl 0 rfl) ?_
  refine va_get (D := G) (ci := 7) (v := .ref (q 0)) (C := RX7) (T := TX7) (N := 9) hx hb hts hinX7 hown hK hP 0 rfl rfl 0 (by decide) lk10 (fun _ h9 => h9) rfl dX7_bell_19 ?_
  refine va_get (D := G) (ci := 3) (v := .int ((S 0 0) + nI 1)) (C := RX3) (T := TX3) (N := 16) hx hb hts hinX3 hown hK hP 1 rfl rfl 0 (by decide) lk151 (fun _ h9 => h9) rfl dX7_bell_22 ?_
  subst hQ
  have e_1 : (S 0 0) + nI 1 = S 0 0 + nI 1 := (by first | rfl | simp [bI])
  have e_2 : (pBM ((S 0 0) + nI 1) ((S 12))) = pBM (S 0 0 + nI 1) (S 12) := (by first | rfl | simp [bI])
  rw [e_2, e_1] at hP hD
  have hP9 : va_P G vwCl (oX7 w q qz h t gr u tr oc Sw ++ oX3 T q (sa (sc (sc S 0 (S 0 0 + nI 1)) 3 (nI 0)) 12 (pBM (S 0 0 + nI 1) (S 12))) ++ oX1 T h qs (sc (sc Sh 1 (nI (hPo o n))) 2 (nI (hPn n))) (updS Hs (hPi o n) S)) H := hP
  have hD9 : va_D A (oX7 w q qz h t gr u tr oc Sw ++ oX3 T q (sa (sc (sc S 0 (S 0 0 + nI 1)) 3 (nI 0)) 12 (pBM (S 0 0 + nI 1) (S 12))) ++ oX1 T h qs (sc (sc Sh 1 (nI (hPo o n))) 2 (nI (hPn n))) (updS Hs (hPi o n) S)) := hD
  exact e_rwi hx hb hr hlocks hS rfl hP9 hD9 dX7_bell_25
set_option maxHeartbeats 4000000 in
set_option maxRecDepth 100000 in
theorem c_X7_set (l : Launch) (G : va_G) (T : Nat → ClassId) (sz : Nat) (w : Nat → Nat) (q : Nat → Nat) (qz : Nat → Nat) (h : Nat → Nat) (t : Nat → Nat) (gr : Nat → Nat) (u : Nat → Nat) (tr : Nat → Nat) (oc : Nat → Nat) (Sw : Nat → Nat → Int32) (S : Nat → Nat → Int32) (Sh : Nat → Nat → Int32) (qs : Nat → Nat → Nat) (Hs : Nat → Nat → Nat → Int32) (o : Nat) (n : Nat) (ii : Nat) (y : Int32) (ho : Sh 0 1 = nI o) (hn : Sh 0 2 = nI n) (ho6 : o < 6) (hn6 : n ≤ 6) (hi2 : ii < 2) (hv9 : pVO (nI ii) y = true) : RWi l yX7_set wsX7_set 3 0 0 G T sz (oX7 w q qz h t gr u tr oc Sw ++ oX3 T q S ++ oX1 T h qs Sh Hs) [.ref (w 0), .int (nI ii), .int y] (S 5 ii) (oX7 w q qz h t gr u tr oc Sw ++ oX3 T q (sa S 5 (upd (S 5) ii y)) ++ oX1 T h qs (sc (sc Sh 1 (nI (hPo o n))) 2 (nI (hPn n))) (updS Hs (hPi o n) S)) := by
  refine Met.ofW (cc := cX7_set) (maxL := 4) (ret := (some .int)) (by decide) rfl ?_
  intro p e s m args below meth c s₁ B hml hv
  obtain ⟨ha, hsz, hP, hK, hD0, hE0⟩ := hv
  have hx := B.exec
  have hb := B.bytes
  have hr := B.returns
  have hlocks := B.notSynchronized
  have hts := atoms_spec (ws := wsX7_set) B.pre
  have hown : s.vm.findClass RX7 = some m.cls := findClass_of_methodNamed B.named
  have cx : CallFix p m c cX7_set 4 s args wsX7_set RX7 := ⟨hx, hb, hml, hown, hts⟩
  subst hsz
  have hD := hD0.self (sz := s.heap.size)
  generalize hAe : va_A (oX7 w q qz h t gr u tr oc Sw ++ oX3 T q S ++ oX1 T h qs Sh Hs) s.heap.size = A at hD hE0 ⊢
  have hE : gE A s s.heap := hE0
  have hA : ∀ q : Nat, s.heap.size ≤ q → A q := fun q h => by rw [← hAe]; exact Or.inr h
  have hS : va_S A s.heap s.heap [] := va_S.rf
  refine w_entry ha (Nat.le_of_ble_eq_true rfl) (fun ls hl => ?_)
  refine w_q (fun Q0 hQ => ?_)
  have lk22 := hts (.fieldLink RX7 22 "WhistleTunes" "history" "LWhistleTunes$History;") (by decide +kernel)
  have hinX7 : ∀ w ∈ wsX70, w ∈ wsX7_set := by decide +kernel
  have lk10 := hts (.fieldLink RX7 10 "WhistleTunes" "school" "LWhistleTunes$School;") (by decide +kernel)
  have lk161 := hts (.fieldLink RX7 161 "WhistleTunes$School" "settings" "[I") (by decide +kernel)
  have hinX3 : ∀ w ∈ wsX30, w ∈ wsX7_set := by decide +kernel
  have hl : lv_has ls 4 [(0, .ref (w 0)), (1, .int (nI ii)), (2, .int y)] := hl
  have hP : va_P G vwCl ([(w 0, .inr (7, [.ref (q 0), .ref (qz 0), .ref (h 0), .ref (t 0), .ref (gr 0), .ref (u 0), .ref (tr 0), .ref (oc 0), .int (Sw 0 8)])), (q 0, .inr (3, [.int (S 0 0), .int (S 0 1), .int (S 0 2), .int (S 0 3), .ref (q 5), .ref (q 6), .ref (q 7), .ref (q 8), .ref (q 9), .ref (q 10), .ref (q 11), .ref (q 12), .ref (q 13), .ref (q 14), .ref (q 15), .ref (q 16)])), (q 5, .inl (T 0, 2, .inl (S 5))), (q 6, .inl (T 0, 20, .inl (S 6))), (q 7, .inl (T 0, 160, .inl (S 7))), (q 8, .inl (T 0, 20, .inl (S 8))), (q 9, .inl (T 0, 20, .inl (S 9))), (q 10, .inl (T 0, 20, .inl (S 10))), (q 11, .inl (T 0, 6, .inl (S 11))), (q 12, .inl (T 0, 6, .inl (S 12))), (q 13, .inl (T 0, 6, .inl (S 13))), (q 14, .inl (T 0, 6, .inl (S 14))), (q 15, .inl (T 0, 6, .inl (S 15))), (q 16, .inl (T 0, 2, .inl (S 16)))] ++ oX1 T h qs Sh Hs) s.heap := hP
  have hD : va_D A ([(w 0, .inr (7, [.ref (q 0), .ref (qz 0), .ref (h 0), .ref (t 0), .ref (gr 0), .ref (u 0), .ref (tr 0), .ref (oc 0), .int (Sw 0 8)])), (q 0, .inr (3, [.int (S 0 0), .int (S 0 1), .int (S 0 2), .int (S 0 3), .ref (q 5), .ref (q 6), .ref (q 7), .ref (q 8), .ref (q 9), .ref (q 10), .ref (q 11), .ref (q 12), .ref (q 13), .ref (q 14), .ref (q 15), .ref (q 16)])), (q 5, .inl (T 0, 2, .inl (S 5))), (q 6, .inl (T 0, 20, .inl (S 6))), (q 7, .inl (T 0, 160, .inl (S 7))), (q 8, .inl (T 0, 20, .inl (S 8))), (q 9, .inl (T 0, 20, .inl (S 9))), (q 10, .inl (T 0, 20, .inl (S 10))), (q 11, .inl (T 0, 6, .inl (S 11))), (q 12, .inl (T 0, 6, .inl (S 12))), (q 13, .inl (T 0, 6, .inl (S 13))), (q 14, .inl (T 0, 6, .inl (S 14))), (q 15, .inl (T 0, 6, .inl (S 15))), (q 16, .inl (T 0, 2, .inl (S 16)))] ++ oX1 T h qs Sh Hs) := hD
  skip
  refine w_h (fun H locs hHe hLe => ?_)
  have hP : va_P G vwCl ([(w 0, .inr (7, [.ref (q 0), .ref (qz 0), .ref (h 0), .ref (t 0), .ref (gr 0), .ref (u 0), .ref (tr 0), .ref (oc 0), .int (Sw 0 8)])), (q 0, .inr (3, [.int (S 0 0), .int (S 0 1), .int (S 0 2), .int (S 0 3), .ref (q 5), .ref (q 6), .ref (q 7), .ref (q 8), .ref (q 9), .ref (q 10), .ref (q 11), .ref (q 12), .ref (q 13), .ref (q 14), .ref (q 15), .ref (q 16)])), (q 5, .inl (T 0, 2, .inl (S 5))), (q 6, .inl (T 0, 20, .inl (S 6))), (q 7, .inl (T 0, 160, .inl (S 7))), (q 8, .inl (T 0, 20, .inl (S 8))), (q 9, .inl (T 0, 20, .inl (S 9))), (q 10, .inl (T 0, 20, .inl (S 10))), (q 11, .inl (T 0, 6, .inl (S 11))), (q 12, .inl (T 0, 6, .inl (S 12))), (q 13, .inl (T 0, 6, .inl (S 13))), (q 14, .inl (T 0, 6, .inl (S 14))), (q 15, .inl (T 0, 6, .inl (S 15))), (q 16, .inl (T 0, 2, .inl (S 16)))] ++ oX1 T h qs Sh Hs) H := by rw [hHe]; exact hP
  have hS : va_S A s.heap H locs := by rw [hHe, hLe]; exact hS
  refine lv_iload_n hx hb dX7_set_0 rfl (lv_at hl 1 rfl) ?_
  refine n_if_lt (a := ii) hx hb (by omega) dX7_set_1 9 (by decide) ?_
  refine lv_iload_n hx hb dX7_set_4 rfl (lv_at hl 1 rfl) ?_
  refine n_iconst hx hb 2 dX7_set_5 (by decide) ?_
  refine n_icmp_lt (a := ii) (b := 2) (tgt := 19) hx hb (by omega) (by decide) dX7_set_6 (by decide) (fun c_1 => ?_) (fun c_2 => by exfalso; omega)
  refine lv_iload_n hx hb dX7_set_19 rfl (lv_at hl 1 rfl) ?_
  refine lv_iload_n hx hb dX7_set_20 rfl (lv_at hl 2 rfl) ?_
  refine k_roS (As := [.int (nI ii), .int y]) (rest := []) (wc := []) (d := 0) (v := bI (pVO (nI ii) y)) cx (c_X7_isValueOf l G T A (nI ii) y ) (va_cwS 2 hts gX7_set_X7_isValueOf rfl rfl rfl (by decide +kernel) ⟨Nat.le_of_ble_eq_true rfl, Nat.le_of_ble_eq_true rfl⟩) (hP.sub (ws' := []) [] rfl) hK (hE.kept hS.2.1) rfl hl.1 rfl (Nat.le_of_ble_eq_true rfl) dX7_set_21 ⟨Nat.le_of_ble_eq_true rfl, Nat.le_of_ble_eq_true rfl⟩ ?_
  refine b_if_ne (b := pVO (nI ii) y) (tgt := 37) hx hb dX7_set_24 (by decide) (fun c_3 => ?_) (fun c_4 => by exfalso; rw [hv9] at c_4; cases c_4)
  refine lv_aload_n hx hb dX7_set_37 rfl (lv_at hl 0 rfl) ?_
  refine va_get (D := G) (ci := 7) (v := .ref (h 0)) (C := RX7) (T := TX7) (N := 9) hx hb hts hinX7 hown hK hP 0 rfl rfl 2 (by decide) lk22 (fun _ h9 => h9) rfl dX7_set_38 ?_
  refine lv_aload_n hx hb dX7_set_41 rfl (lv_at hl 0 rfl) ?_
  refine va_get (D := G) (ci := 7) (v := .ref (q 0)) (C := RX7) (T := TX7) (N := 9) hx hb hts hinX7 hown hK hP 0 rfl rfl 0 (by decide) lk10 (fun _ h9 => h9) rfl dX7_set_42 ?_
  refine k_rvV (As := [.ref (q 0)]) (rest := []) (wc := oX1 T h qs Sh Hs ++ oX3 T q S) (wr := oX7 w q qz h t gr u tr oc Sw) (w1 := oX1 T h qs (sc (sc Sh 1 (nI (hPo o n))) 2 (nI (hPn n))) (updS Hs (hPi o n) S) ++ oX3 T q S) (d := 2) (mc := 0) (ms := 0) (isC := [14, 15, 16, 17, 18, 19, 20, 21, 22, 23, 24, 25, 26, 27, 28, 29, 30, 31, 32, 33, 34, 35, 36, 37, 38, 39, 40, 41, 42, 43, 44, 45, 46, 47, 48, 49, 50, 51, 52, 53, 54, 55, 56, 57, 58, 59, 60, 61, 62, 63, 64, 65, 66, 67, 68, 69, 70, 71, 72, 73, 74, 75, 76, 77, 78, 79, 80, 81, 82, 83, 84, 85, 86, 87, 88, 89, 90, 91, 92, 93, 1, 2, 3, 4, 5, 6, 7, 8, 9, 10, 11, 12, 13]) (isR := [0]) cx (c_X1_push l G T H.size h qs Sh Hs q S o n (by first | assumption | rfl | omega) (by first | assumption | rfl | omega) (by omega) (by omega)) (cwV 1 hts gX7_set_X1_push rfl rfl rfl (by decide +kernel) ⟨Nat.le_of_ble_eq_true rfl, Nat.le_of_ble_eq_true rfl⟩) ⟨hP, hD, hS, hA, hE, hK, rfl, rfl, rfl, rfl, by decide⟩ (va_recv hK hP (ci := 1) (q0 := 14) rfl rfl) rfl hl.1 rfl (Nat.le_of_ble_eq_true rfl) dX7_set_45 ⟨Nat.le_of_ble_eq_true rfl, Nat.le_of_ble_eq_true rfl⟩ (fun H locs hP hD hS hz => ?_)
  have hP : va_P G vwCl ([(w 0, .inr (7, [.ref (q 0), .ref (qz 0), .ref (h 0), .ref (t 0), .ref (gr 0), .ref (u 0), .ref (tr 0), .ref (oc 0), .int (Sw 0 8)])), (q 0, .inr (3, [.int (S 0 0), .int (S 0 1), .int (S 0 2), .int (S 0 3), .ref (q 5), .ref (q 6), .ref (q 7), .ref (q 8), .ref (q 9), .ref (q 10), .ref (q 11), .ref (q 12), .ref (q 13), .ref (q 14), .ref (q 15), .ref (q 16)])), (q 5, .inl (T 0, 2, .inl (S 5))), (q 6, .inl (T 0, 20, .inl (S 6))), (q 7, .inl (T 0, 160, .inl (S 7))), (q 8, .inl (T 0, 20, .inl (S 8))), (q 9, .inl (T 0, 20, .inl (S 9))), (q 10, .inl (T 0, 20, .inl (S 10))), (q 11, .inl (T 0, 6, .inl (S 11))), (q 12, .inl (T 0, 6, .inl (S 12))), (q 13, .inl (T 0, 6, .inl (S 13))), (q 14, .inl (T 0, 6, .inl (S 14))), (q 15, .inl (T 0, 6, .inl (S 15))), (q 16, .inl (T 0, 2, .inl (S 16)))] ++ oX1 T h qs (sc (sc Sh 1 (nI (hPo o n))) 2 (nI (hPn n))) (updS Hs (hPi o n) S)) H := kN.sub (is := [0, 81, 82, 83, 84, 85, 86, 87, 88, 89, 90, 91, 92, 93, 1, 2, 3, 4, 5, 6, 7, 8, 9, 10, 11, 12, 13, 14, 15, 16, 17, 18, 19, 20, 21, 22, 23, 24, 25, 26, 27, 28, 29, 30, 31, 32, 33, 34, 35, 36, 37, 38, 39, 40, 41, 42, 43, 44, 45, 46, 47, 48, 49, 50, 51, 52, 53, 54, 55, 56, 57, 58, 59, 60, 61, 62, 63, 64, 65, 66, 67, 68, 69, 70, 71, 72, 73, 74, 75, 76, 77, 78, 79, 80]) hP rfl
  have hD : va_D A ([(w 0, .inr (7, [.ref (q 0), .ref (qz 0), .ref (h 0), .ref (t 0), .ref (gr 0), .ref (u 0), .ref (tr 0), .ref (oc 0), .int (Sw 0 8)])), (q 0, .inr (3, [.int (S 0 0), .int (S 0 1), .int (S 0 2), .int (S 0 3), .ref (q 5), .ref (q 6), .ref (q 7), .ref (q 8), .ref (q 9), .ref (q 10), .ref (q 11), .ref (q 12), .ref (q 13), .ref (q 14), .ref (q 15), .ref (q 16)])), (q 5, .inl (T 0, 2, .inl (S 5))), (q 6, .inl (T 0, 20, .inl (S 6))), (q 7, .inl (T 0, 160, .inl (S 7))), (q 8, .inl (T 0, 20, .inl (S 8))), (q 9, .inl (T 0, 20, .inl (S 9))), (q 10, .inl (T 0, 20, .inl (S 10))), (q 11, .inl (T 0, 6, .inl (S 11))), (q 12, .inl (T 0, 6, .inl (S 12))), (q 13, .inl (T 0, 6, .inl (S 13))), (q 14, .inl (T 0, 6, .inl (S 14))), (q 15, .inl (T 0, 6, .inl (S 15))), (q 16, .inl (T 0, 2, .inl (S 16)))] ++ oX1 T h qs (sc (sc Sh 1 (nI (hPo o n))) 2 (nI (hPn n))) (updS Hs (hPi o n) S)) := hD.sub [0, 81, 82, 83, 84, 85, 86, 87, 88, 89, 90, 91, 92, 93, 1, 2, 3, 4, 5, 6, 7, 8, 9, 10, 11, 12, 13, 14, 15, 16, 17, 18, 19, 20, 21, 22, 23, 24, 25, 26, 27, 28, 29, 30, 31, 32, 33, 34, 35, 36, 37, 38, 39, 40, 41, 42, 43, 44, 45, 46, 47, 48, 49, 50, 51, 52, 53, 54, 55, 56, 57, 58, 59, 60, 61, 62, 63, 64, 65, 66, 67, 68, 69, 70, 71, 72, 73, 74, 75, 76, 77, 78, 79, 80] rfl rfl
  refine lv_aload_n hx hb dX7_set_48 rfl (lv_at hl 0 rfl) ?_
  refine va_get (D := G) (ci := 7) (v := .ref (q 0)) (C := RX7) (T := TX7) (N := 9) hx hb hts hinX7 hown hK hP 0 rfl rfl 0 (by decide) lk10 (fun _ h9 => h9) rfl dX7_set_49 ?_
  refine va_get (D := G) (ci := 3) (v := .ref (q 5)) (C := RX3) (T := TX3) (N := 16) hx hb hts hinX3 hown hK hP 1 rfl rfl 4 (by decide) lk161 (fun _ h9 => h9) rfl dX7_set_52 ?_
  refine lv_iload_n hx hb dX7_set_55 rfl (lv_at hl 1 rfl) ?_
  refine n_iald hx hb hK hP 2 0 rfl rfl ii (by omega) (by decide) dX7_set_56 ?_
  refine lv_istore_n (lv' := [(3, .int ((S 5) ii)), (0, .ref (w 0)), (1, .int (nI ii)), (2, .int y)]) hx hb dX7_set_57 rfl hl (by decide) rfl (fun ls hl => ?_)
  refine lv_aload_n hx hb dX7_set_58 rfl (lv_at hl 1 rfl) ?_
  refine va_get (D := G) (ci := 7) (v := .ref (q 0)) (C := RX7) (T := TX7) (N := 9) hx hb hts hinX7 hown hK hP 0 rfl rfl 0 (by decide) lk10 (fun _ h9 => h9) rfl dX7_set_59 ?_
  refine va_get (D := G) (ci := 3) (v := .ref (q 5)) (C := RX3) (T := TX3) (N := 16) hx hb hts hinX3 hown hK hP 1 rfl rfl 4 (by decide) lk161 (fun _ h9 => h9) rfl dX7_set_62 ?_
  refine lv_iload_n hx hb dX7_set_65 rfl (lv_at hl 2 rfl) ?_
  refine lv_iload_n hx hb dX7_set_66 rfl (lv_at hl 3 rfl) ?_
  refine n_iast hx hb hK hP hD hS 2 0 rfl rfl ii (by omega) (by decide) dX7_set_67 (fun H locs hP hD hS => ?_)
  have hP : va_P G vwCl ([(w 0, .inr (7, [.ref (q 0), .ref (qz 0), .ref (h 0), .ref (t 0), .ref (gr 0), .ref (u 0), .ref (tr 0), .ref (oc 0), .int (Sw 0 8)])), (q 0, .inr (3, [.int (S 0 0), .int (S 0 1), .int (S 0 2), .int (S 0 3), .ref (q 5), .ref (q 6), .ref (q 7), .ref (q 8), .ref (q 9), .ref (q 10), .ref (q 11), .ref (q 12), .ref (q 13), .ref (q 14), .ref (q 15), .ref (q 16)])), (q 5, .inl (T 0, 2, .inl (upd (S 5) ii y))), (q 6, .inl (T 0, 20, .inl (S 6))), (q 7, .inl (T 0, 160, .inl (S 7))), (q 8, .inl (T 0, 20, .inl (S 8))), (q 9, .inl (T 0, 20, .inl (S 9))), (q 10, .inl (T 0, 20, .inl (S 10))), (q 11, .inl (T 0, 6, .inl (S 11))), (q 12, .inl (T 0, 6, .inl (S 12))), (q 13, .inl (T 0, 6, .inl (S 13))), (q 14, .inl (T 0, 6, .inl (S 14))), (q 15, .inl (T 0, 6, .inl (S 15))), (q 16, .inl (T 0, 2, .inl (S 16)))] ++ oX1 T h qs (sc (sc Sh 1 (nI (hPo o n))) 2 (nI (hPn n))) (updS Hs (hPi o n) S)) H := hP
  have hD : va_D A ([(w 0, .inr (7, [.ref (q 0), .ref (qz 0), .ref (h 0), .ref (t 0), .ref (gr 0), .ref (u 0), .ref (tr 0), .ref (oc 0), .int (Sw 0 8)])), (q 0, .inr (3, [.int (S 0 0), .int (S 0 1), .int (S 0 2), .int (S 0 3), .ref (q 5), .ref (q 6), .ref (q 7), .ref (q 8), .ref (q 9), .ref (q 10), .ref (q 11), .ref (q 12), .ref (q 13), .ref (q 14), .ref (q 15), .ref (q 16)])), (q 5, .inl (T 0, 2, .inl (upd (S 5) ii y))), (q 6, .inl (T 0, 20, .inl (S 6))), (q 7, .inl (T 0, 160, .inl (S 7))), (q 8, .inl (T 0, 20, .inl (S 8))), (q 9, .inl (T 0, 20, .inl (S 9))), (q 10, .inl (T 0, 20, .inl (S 10))), (q 11, .inl (T 0, 6, .inl (S 11))), (q 12, .inl (T 0, 6, .inl (S 12))), (q 13, .inl (T 0, 6, .inl (S 13))), (q 14, .inl (T 0, 6, .inl (S 14))), (q 15, .inl (T 0, 6, .inl (S 15))), (q 16, .inl (T 0, 2, .inl (S 16)))] ++ oX1 T h qs (sc (sc Sh 1 (nI (hPo o n))) 2 (nI (hPn n))) (updS Hs (hPi o n) S)) := hD
  refine lv_iload_n hx hb dX7_set_68 rfl (lv_at hl 0 rfl) ?_
  subst hQ
  have hP9 : va_P G vwCl (oX7 w q qz h t gr u tr oc Sw ++ oX3 T q (sa S 5 (upd (S 5) ii y)) ++ oX1 T h qs (sc (sc Sh 1 (nI (hPo o n))) 2 (nI (hPn n))) (updS Hs (hPi o n) S)) H := hP
  have hD9 : va_D A (oX7 w q qz h t gr u tr oc Sw ++ oX3 T q (sa S 5 (upd (S 5) ii y)) ++ oX1 T h qs (sc (sc Sh 1 (nI (hPo o n))) 2 (nI (hPn n))) (updS Hs (hPi o n) S)) := hD
  exact e_rwi hx hb hr hlocks hS rfl hP9 hD9 dX7_set_69
set_option maxHeartbeats 4000000 in
set_option maxRecDepth 100000 in
theorem c_X7_set_t (l : Launch) (hst : l.stackTraces = false) (G : va_G) (T : Nat → ClassId) (sz : Nat) (w : Nat → Nat) (q : Nat → Nat) (qz : Nat → Nat) (h : Nat → Nat) (t : Nat → Nat) (gr : Nat → Nat) (u : Nat → Nat) (tr : Nat → Nat) (oc : Nat → Nat) (Sw : Nat → Nat → Int32) (x : Int32) (y : Int32) (hbx : pBt x 2 = false) : RX l yX7_set wsX7_set 7 G T sz (oX7 w q qz h t gr u tr oc Sw) [.ref (w 0), .int x, .int y] (.inr "java/lang/IndexOutOfBoundsException") (oX7 w q qz h t gr u tr oc Sw) := by
  refine vx_ofW (cc := cX7_set) (maxL := 4) (ret := (some .int)) (by decide) rfl ?_
  intro p e s m args below meth c s₁ B hml htab hv
  obtain ⟨ha, ⟨hsz, hP, hK, hD0, hE0⟩, hC⟩ := hv
  have hx := B.exec
  have hb := B.bytes
  have hr := B.returns
  have hlocks := B.notSynchronized
  have hts := atoms_spec (ws := wsX7_set) B.pre
  have hown : s.vm.findClass RX7 = some m.cls := findClass_of_methodNamed B.named
  have cx : CallFix p m c cX7_set 4 s args wsX7_set RX7 := ⟨hx, hb, hml, hown, hts⟩
  subst hsz
  have hD := hD0.self (sz := s.heap.size)
  generalize hAe : va_A (oX7 w q qz h t gr u tr oc Sw) s.heap.size = A at hD hE0 ⊢
  have hE : gE A s s.heap := hE0
  have hA : ∀ q : Nat, s.heap.size ≤ q → A q := fun q h => by rw [← hAe]; exact Or.inr h
  have hS : va_S A s.heap s.heap [] := va_S.rf
  refine w_entry ha (Nat.le_of_ble_eq_true rfl) (fun ls hl => ?_)
  refine w_q (fun Q0 hQ => ?_)
  have hl : lv_has ls 4 [(0, .ref (w 0)), (1, .int x), (2, .int y)] := hl
  have hP : va_P G vwCl [(w 0, .inr (7, [.ref (q 0), .ref (qz 0), .ref (h 0), .ref (t 0), .ref (gr 0), .ref (u 0), .ref (tr 0), .ref (oc 0), .int (Sw 0 8)]))] s.heap := hP
  have hD : va_D A [(w 0, .inr (7, [.ref (q 0), .ref (qz 0), .ref (h 0), .ref (t 0), .ref (gr 0), .ref (u 0), .ref (tr 0), .ref (oc 0), .int (Sw 0 8)]))] := hD
  skip
  refine w_h (fun H locs hHe hLe => ?_)
  have hP : va_P G vwCl [(w 0, .inr (7, [.ref (q 0), .ref (qz 0), .ref (h 0), .ref (t 0), .ref (gr 0), .ref (u 0), .ref (tr 0), .ref (oc 0), .int (Sw 0 8)]))] H := by rw [hHe]; exact hP
  have hS : va_S A s.heap H locs := by rw [hHe, hLe]; exact hS
  refine lv_iload_n hx hb dX7_set_0 rfl (lv_at hl 1 rfl) ?_
  refine lv_if_lt (tgt := 9) hx hb dX7_set_1 (by decide) (fun c_1 => ?_) (fun c_2 => ?_)
  · skip
    subst hQ
    have hP9 : va_P G vwCl (oX7 w q qz h t gr u tr oc Sw) H := hP
    have hD9 : va_D A (oX7 w q qz h t gr u tr oc Sw) := hD
    exact e_thr hx hb hst (own := RX7) (cls := "java/lang/IndexOutOfBoundsException") "no such setting" ["java/lang/RuntimeException", "java/lang/Exception"] (ik := 69) (is := 154) (ic := 73) hown (by decide +kernel) (by decide +kernel) (hts (.classLink RX7 69 "java/lang/IndexOutOfBoundsException") (by decide +kernel)) (hts (.initialized "java/lang/IndexOutOfBoundsException") (by decide +kernel)) (hE.2.1 (RX7, 154, "no such setting") (by decide +kernel)) (xt_Z (is := 0) (ik := 0) (text := "") hC (by decide +kernel) (by decide +kernel) (fun w9 hw9 => hts w9 (List.mem_cons_of_mem _ (List.mem_append_left _ (List.mem_append_right _ hw9))))) (by decide +kernel) hE hS (hl.1.trans hml.symm) dX7_set_9 dX7_set_12 dX7_set_13 dX7_set_15 dX7_set_18 htab ⟨by decide, Nat.le_of_ble_eq_true rfl, Nat.le_of_ble_eq_true rfl, Nat.le_of_ble_eq_true rfl⟩ hlocks ⟨rfl, rfl⟩ rfl hP9 hD9
  · skip
    refine lv_iload_n hx hb dX7_set_4 rfl (lv_at hl 1 rfl) ?_
    refine n_iconst hx hb 2 dX7_set_5 (by decide) ?_
    refine lv_icmp_lt (tgt := 19) hx hb dX7_set_6 (by decide) (fun c_3 => by exfalso; exact pBt_X hbx (by assumption) c_3) (fun c_4 => ?_)
    subst hQ
    have hP9 : va_P G vwCl (oX7 w q qz h t gr u tr oc Sw) H := hP
    have hD9 : va_D A (oX7 w q qz h t gr u tr oc Sw) := hD
    exact e_thr hx hb hst (own := RX7) (cls := "java/lang/IndexOutOfBoundsException") "no such setting" ["java/lang/RuntimeException", "java/lang/Exception"] (ik := 69) (is := 154) (ic := 73) hown (by decide +kernel) (by decide +kernel) (hts (.classLink RX7 69 "java/lang/IndexOutOfBoundsException") (by decide +kernel)) (hts (.initialized "java/lang/IndexOutOfBoundsException") (by decide +kernel)) (hE.2.1 (RX7, 154, "no such setting") (by decide +kernel)) (xt_Z (is := 0) (ik := 0) (text := "") hC (by decide +kernel) (by decide +kernel) (fun w9 hw9 => hts w9 (List.mem_cons_of_mem _ (List.mem_append_left _ (List.mem_append_right _ hw9))))) (by decide +kernel) hE hS (hl.1.trans hml.symm) dX7_set_9 dX7_set_12 dX7_set_13 dX7_set_15 dX7_set_18 htab ⟨by decide, Nat.le_of_ble_eq_true rfl, Nat.le_of_ble_eq_true rfl, Nat.le_of_ble_eq_true rfl⟩ hlocks ⟨rfl, rfl⟩ rfl hP9 hD9
set_option maxHeartbeats 4000000 in
set_option maxRecDepth 100000 in
theorem c_X7_set_t2 (l : Launch) (hst : l.stackTraces = false) (G : va_G) (T : Nat → ClassId) (sz : Nat) (w : Nat → Nat) (q : Nat → Nat) (qz : Nat → Nat) (h : Nat → Nat) (t : Nat → Nat) (gr : Nat → Nat) (u : Nat → Nat) (tr : Nat → Nat) (oc : Nat → Nat) (Sw : Nat → Nat → Int32) (ii : Nat) (y : Int32) (hi2 : ii < 2) (hv9 : pVO (nI ii) y = false) : RX l yX7_set wsX7_set 7 G T sz (oX7 w q qz h t gr u tr oc Sw) [.ref (w 0), .int (nI ii), .int y] (.inr "java/lang/IllegalArgumentException") (oX7 w q qz h t gr u tr oc Sw) := by
  refine vx_ofW (cc := cX7_set) (maxL := 4) (ret := (some .int)) (by decide) rfl ?_
  intro p e s m args below meth c s₁ B hml htab hv
  obtain ⟨ha, ⟨hsz, hP, hK, hD0, hE0⟩, hC⟩ := hv
  have hx := B.exec
  have hb := B.bytes
  have hr := B.returns
  have hlocks := B.notSynchronized
  have hts := atoms_spec (ws := wsX7_set) B.pre
  have hown : s.vm.findClass RX7 = some m.cls := findClass_of_methodNamed B.named
  have cx : CallFix p m c cX7_set 4 s args wsX7_set RX7 := ⟨hx, hb, hml, hown, hts⟩
  subst hsz
  have hD := hD0.self (sz := s.heap.size)
  generalize hAe : va_A (oX7 w q qz h t gr u tr oc Sw) s.heap.size = A at hD hE0 ⊢
  have hE : gE A s s.heap := hE0
  have hA : ∀ q : Nat, s.heap.size ≤ q → A q := fun q h => by rw [← hAe]; exact Or.inr h
  have hS : va_S A s.heap s.heap [] := va_S.rf
  refine w_entry ha (Nat.le_of_ble_eq_true rfl) (fun ls hl => ?_)
  refine w_q (fun Q0 hQ => ?_)
  have hl : lv_has ls 4 [(0, .ref (w 0)), (1, .int (nI ii)), (2, .int y)] := hl
  have hP : va_P G vwCl [(w 0, .inr (7, [.ref (q 0), .ref (qz 0), .ref (h 0), .ref (t 0), .ref (gr 0), .ref (u 0), .ref (tr 0), .ref (oc 0), .int (Sw 0 8)]))] s.heap := hP
  have hD : va_D A [(w 0, .inr (7, [.ref (q 0), .ref (qz 0), .ref (h 0), .ref (t 0), .ref (gr 0), .ref (u 0), .ref (tr 0), .ref (oc 0), .int (Sw 0 8)]))] := hD
  skip
  refine w_h (fun H locs hHe hLe => ?_)
  have hP : va_P G vwCl [(w 0, .inr (7, [.ref (q 0), .ref (qz 0), .ref (h 0), .ref (t 0), .ref (gr 0), .ref (u 0), .ref (tr 0), .ref (oc 0), .int (Sw 0 8)]))] H := by rw [hHe]; exact hP
  have hS : va_S A s.heap H locs := by rw [hHe, hLe]; exact hS
  refine lv_iload_n hx hb dX7_set_0 rfl (lv_at hl 1 rfl) ?_
  refine n_if_lt (a := ii) hx hb (by omega) dX7_set_1 9 (by decide) ?_
  refine lv_iload_n hx hb dX7_set_4 rfl (lv_at hl 1 rfl) ?_
  refine n_iconst hx hb 2 dX7_set_5 (by decide) ?_
  refine n_icmp_lt (a := ii) (b := 2) (tgt := 19) hx hb (by omega) (by decide) dX7_set_6 (by decide) (fun c_1 => ?_) (fun c_2 => by exfalso; omega)
  refine lv_iload_n hx hb dX7_set_19 rfl (lv_at hl 1 rfl) ?_
  refine lv_iload_n hx hb dX7_set_20 rfl (lv_at hl 2 rfl) ?_
  refine k_roS (As := [.int (nI ii), .int y]) (rest := []) (wc := []) (d := 0) (v := bI (pVO (nI ii) y)) cx (c_X7_isValueOf l G T A (nI ii) y ) (va_cwS 2 hts gX7_set_X7_isValueOf rfl rfl rfl (by decide +kernel) ⟨Nat.le_of_ble_eq_true rfl, Nat.le_of_ble_eq_true rfl⟩) (hP.sub (ws' := []) [] rfl) hK (hE.kept hS.2.1) rfl hl.1 rfl (Nat.le_of_ble_eq_true rfl) dX7_set_21 ⟨Nat.le_of_ble_eq_true rfl, Nat.le_of_ble_eq_true rfl⟩ ?_
  refine b_if_ne (b := pVO (nI ii) y) (tgt := 37) hx hb dX7_set_24 (by decide) (fun c_3 => by exfalso; rw [hv9] at c_3; cases c_3) (fun c_4 => ?_)
  subst hQ
  have hP9 : va_P G vwCl (oX7 w q qz h t gr u tr oc Sw) H := hP
  have hD9 : va_D A (oX7 w q qz h t gr u tr oc Sw) := hD
  exact e_thr hx hb hst (own := RX7) (cls := "java/lang/IllegalArgumentException") "the value is out of range" ["java/lang/RuntimeException", "java/lang/Exception"] (ik := 80) (is := 159) (ic := 84) hown (by decide +kernel) (by decide +kernel) (hts (.classLink RX7 80 "java/lang/IllegalArgumentException") (by decide +kernel)) (hts (.initialized "java/lang/IllegalArgumentException") (by decide +kernel)) (hE.2.1 (RX7, 159, "the value is out of range") (by decide +kernel)) (xt_Z (is := 0) (ik := 0) (text := "") hC (by decide +kernel) (by decide +kernel) (fun w9 hw9 => hts w9 (List.mem_cons_of_mem _ (List.mem_append_right _ hw9)))) (by decide +kernel) hE hS (hl.1.trans hml.symm) dX7_set_27 dX7_set_30 dX7_set_31 dX7_set_33 dX7_set_36 htab ⟨by decide, Nat.le_of_ble_eq_true rfl, Nat.le_of_ble_eq_true rfl, Nat.le_of_ble_eq_true rfl⟩ hlocks ⟨rfl, rfl⟩ rfl hP9 hD9
set_option maxHeartbeats 4000000 in
set_option maxRecDepth 100000 in
theorem c_X7_soundWhistle (l : Launch) (G : va_G) (T : Nat → ClassId) (sz : Nat) (w : Nat → Nat) (q : Nat → Nat) (qz : Nat → Nat) (h : Nat → Nat) (t : Nat → Nat) (gr : Nat → Nat) (u : Nat → Nat) (tr : Nat → Nat) (oc : Nat → Nat) (Sw : Nat → Nat → Int32) (O : Nat → Nat → Int32) (S : Nat → Nat → Int32) (rr : Nat) (mm : Nat) (hr6 : rr < 6) (hm20 : mm < 20) : RWi l yX7_soundWhistle wsX7_soundWhistle 4 0 0 G T sz (oX7 w q qz h t gr u tr oc Sw ++ oX2 T oc O ++ oX3 T q S) [.ref (w 0), .int (nI rr), .int (nI mm)] (pBC (pUn S rr)) (oX7 w q qz h t gr u tr oc Sw ++ oX2 T oc (pFor O S rr mm) ++ oX3 T q (pRem S (pFor O S rr mm) rr mm)) := by
  refine Met.ofW (cc := cX7_soundWhistle) (maxL := 3) (ret := (some .int)) (by decide) rfl ?_
  intro p e s m args below meth c s₁ B hml hv
  obtain ⟨ha, hsz, hP, hK, hD0, hE0⟩ := hv
  have hx := B.exec
  have hb := B.bytes
  have hr := B.returns
  have hlocks := B.notSynchronized
  have hts := atoms_spec (ws := wsX7_soundWhistle) B.pre
  have hown : s.vm.findClass RX7 = some m.cls := findClass_of_methodNamed B.named
  have cx : CallFix p m c cX7_soundWhistle 3 s args wsX7_soundWhistle RX7 := ⟨hx, hb, hml, hown, hts⟩
  subst hsz
  have hD := hD0.self (sz := s.heap.size)
  generalize hAe : va_A (oX7 w q qz h t gr u tr oc Sw ++ oX2 T oc O ++ oX3 T q S) s.heap.size = A at hD hE0 ⊢
  have hE : gE A s s.heap := hE0
  have hA : ∀ q : Nat, s.heap.size ≤ q → A q := fun q h => by rw [← hAe]; exact Or.inr h
  have hS : va_S A s.heap s.heap [] := va_S.rf
  refine w_entry ha (Nat.le_of_ble_eq_true rfl) (fun ls hl => ?_)
  refine w_q (fun Q0 hQ => ?_)
  have lk57 := hts (.fieldLink RX7 57 "WhistleTunes" "outcome" "LWhistleTunes$Outcome;") (by decide +kernel)
  have hinX7 : ∀ w ∈ wsX70, w ∈ wsX7_soundWhistle := by decide +kernel
  have lk10 := hts (.fieldLink RX7 10 "WhistleTunes" "school" "LWhistleTunes$School;") (by decide +kernel)
  have lk296 := hts (.fieldLink RX7 296 "WhistleTunes$Outcome" "understanders" "I") (by decide +kernel)
  have hinX2 : ∀ w ∈ wsX20, w ∈ wsX7_soundWhistle := by decide +kernel
  have hl : lv_has ls 3 [(0, .ref (w 0)), (1, .int (nI rr)), (2, .int (nI mm))] := hl
  have hP : va_P G vwCl [(w 0, .inr (7, [.ref (q 0), .ref (qz 0), .ref (h 0), .ref (t 0), .ref (gr 0), .ref (u 0), .ref (tr 0), .ref (oc 0), .int (Sw 0 8)])), (oc 0, .inr (2, [.int (O 0 0), .int (O 0 1), .int (O 0 2), .int (O 0 3), .int (O 0 4)])), (q 0, .inr (3, [.int (S 0 0), .int (S 0 1), .int (S 0 2), .int (S 0 3), .ref (q 5), .ref (q 6), .ref (q 7), .ref (q 8), .ref (q 9), .ref (q 10), .ref (q 11), .ref (q 12), .ref (q 13), .ref (q 14), .ref (q 15), .ref (q 16)])), (q 5, .inl (T 0, 2, .inl (S 5))), (q 6, .inl (T 0, 20, .inl (S 6))), (q 7, .inl (T 0, 160, .inl (S 7))), (q 8, .inl (T 0, 20, .inl (S 8))), (q 9, .inl (T 0, 20, .inl (S 9))), (q 10, .inl (T 0, 20, .inl (S 10))), (q 11, .inl (T 0, 6, .inl (S 11))), (q 12, .inl (T 0, 6, .inl (S 12))), (q 13, .inl (T 0, 6, .inl (S 13))), (q 14, .inl (T 0, 6, .inl (S 14))), (q 15, .inl (T 0, 6, .inl (S 15))), (q 16, .inl (T 0, 2, .inl (S 16)))] s.heap := hP
  have hD : va_D A [(w 0, .inr (7, [.ref (q 0), .ref (qz 0), .ref (h 0), .ref (t 0), .ref (gr 0), .ref (u 0), .ref (tr 0), .ref (oc 0), .int (Sw 0 8)])), (oc 0, .inr (2, [.int (O 0 0), .int (O 0 1), .int (O 0 2), .int (O 0 3), .int (O 0 4)])), (q 0, .inr (3, [.int (S 0 0), .int (S 0 1), .int (S 0 2), .int (S 0 3), .ref (q 5), .ref (q 6), .ref (q 7), .ref (q 8), .ref (q 9), .ref (q 10), .ref (q 11), .ref (q 12), .ref (q 13), .ref (q 14), .ref (q 15), .ref (q 16)])), (q 5, .inl (T 0, 2, .inl (S 5))), (q 6, .inl (T 0, 20, .inl (S 6))), (q 7, .inl (T 0, 160, .inl (S 7))), (q 8, .inl (T 0, 20, .inl (S 8))), (q 9, .inl (T 0, 20, .inl (S 9))), (q 10, .inl (T 0, 20, .inl (S 10))), (q 11, .inl (T 0, 6, .inl (S 11))), (q 12, .inl (T 0, 6, .inl (S 12))), (q 13, .inl (T 0, 6, .inl (S 13))), (q 14, .inl (T 0, 6, .inl (S 14))), (q 15, .inl (T 0, 6, .inl (S 15))), (q 16, .inl (T 0, 2, .inl (S 16)))] := hD
  skip
  refine w_h (fun H locs hHe hLe => ?_)
  have hP : va_P G vwCl [(w 0, .inr (7, [.ref (q 0), .ref (qz 0), .ref (h 0), .ref (t 0), .ref (gr 0), .ref (u 0), .ref (tr 0), .ref (oc 0), .int (Sw 0 8)])), (oc 0, .inr (2, [.int (O 0 0), .int (O 0 1), .int (O 0 2), .int (O 0 3), .int (O 0 4)])), (q 0, .inr (3, [.int (S 0 0), .int (S 0 1), .int (S 0 2), .int (S 0 3), .ref (q 5), .ref (q 6), .ref (q 7), .ref (q 8), .ref (q 9), .ref (q 10), .ref (q 11), .ref (q 12), .ref (q 13), .ref (q 14), .ref (q 15), .ref (q 16)])), (q 5, .inl (T 0, 2, .inl (S 5))), (q 6, .inl (T 0, 20, .inl (S 6))), (q 7, .inl (T 0, 160, .inl (S 7))), (q 8, .inl (T 0, 20, .inl (S 8))), (q 9, .inl (T 0, 20, .inl (S 9))), (q 10, .inl (T 0, 20, .inl (S 10))), (q 11, .inl (T 0, 6, .inl (S 11))), (q 12, .inl (T 0, 6, .inl (S 12))), (q 13, .inl (T 0, 6, .inl (S 13))), (q 14, .inl (T 0, 6, .inl (S 14))), (q 15, .inl (T 0, 6, .inl (S 15))), (q 16, .inl (T 0, 2, .inl (S 16)))] H := by rw [hHe]; exact hP
  have hS : va_S A s.heap H locs := by rw [hHe, hLe]; exact hS
  refine lv_aload_n hx hb dX7_soundWhistle_0 rfl (lv_at hl 0 rfl) ?_
  refine va_get (D := G) (ci := 7) (v := .ref (oc 0)) (C := RX7) (T := TX7) (N := 9) hx hb hts hinX7 hown hK hP 0 rfl rfl 7 (by decide) lk57 (fun _ h9 => h9) rfl dX7_soundWhistle_1 ?_
  refine lv_aload_n hx hb dX7_soundWhistle_4 rfl (lv_at hl 0 rfl) ?_
  refine va_get (D := G) (ci := 7) (v := .ref (q 0)) (C := RX7) (T := TX7) (N := 9) hx hb hts hinX7 hown hK hP 0 rfl rfl 0 (by decide) lk10 (fun _ h9 => h9) rfl dX7_soundWhistle_5 ?_
  refine lv_iload_n hx hb dX7_soundWhistle_8 rfl (lv_at hl 1 rfl) ?_
  refine lv_iload_n hx hb dX7_soundWhistle_9 rfl (lv_at hl 2 rfl) ?_
  refine k_rvV (As := [.ref (q 0), .int (nI rr), .int (nI mm)]) (rest := []) (wc := oX2 T oc O ++ oX3 T q S) (wr := oX7 w q qz h t gr u tr oc Sw) (w1 := oX2 T oc (sc (sc (sc (sc (sc O 0 (pFHo S rr 3)) 1 (pHe S rr)) 2 (pUn S rr)) 3 (pCa S rr mm)) 4 (pRa S rr mm)) ++ oX3 T q S) (d := 2) (mc := 0) (ms := 0) (isC := [1, 2, 3, 4, 5, 6, 7, 8, 9, 10, 11, 12, 13, 14]) (isR := [0]) cx (c_X2_foresee l G T H.size oc q O S rr mm (by omega) (by omega)) (cwV 3 hts gX7_soundWhistle_X2_foresee rfl rfl rfl (by decide +kernel) ⟨Nat.le_of_ble_eq_true rfl, Nat.le_of_ble_eq_true rfl⟩) ⟨hP, hD, hS, hA, hE, hK, rfl, rfl, rfl, rfl, by decide⟩ (va_recv hK hP (ci := 2) (q0 := 1) rfl rfl) rfl hl.1 rfl (Nat.le_of_ble_eq_true rfl) dX7_soundWhistle_10 ⟨Nat.le_of_ble_eq_true rfl, Nat.le_of_ble_eq_true rfl⟩ (fun H locs hP hD hS hz => ?_)
  have hP : va_P G vwCl [(w 0, .inr (7, [.ref (q 0), .ref (qz 0), .ref (h 0), .ref (t 0), .ref (gr 0), .ref (u 0), .ref (tr 0), .ref (oc 0), .int (Sw 0 8)])), (oc 0, .inr (2, [.int (pFHo S rr 3), .int (pHe S rr), .int (pUn S rr), .int (pCa S rr mm), .int (pRa S rr mm)])), (q 0, .inr (3, [.int (S 0 0), .int (S 0 1), .int (S 0 2), .int (S 0 3), .ref (q 5), .ref (q 6), .ref (q 7), .ref (q 8), .ref (q 9), .ref (q 10), .ref (q 11), .ref (q 12), .ref (q 13), .ref (q 14), .ref (q 15), .ref (q 16)])), (q 5, .inl (T 0, 2, .inl (S 5))), (q 6, .inl (T 0, 20, .inl (S 6))), (q 7, .inl (T 0, 160, .inl (S 7))), (q 8, .inl (T 0, 20, .inl (S 8))), (q 9, .inl (T 0, 20, .inl (S 9))), (q 10, .inl (T 0, 20, .inl (S 10))), (q 11, .inl (T 0, 6, .inl (S 11))), (q 12, .inl (T 0, 6, .inl (S 12))), (q 13, .inl (T 0, 6, .inl (S 13))), (q 14, .inl (T 0, 6, .inl (S 14))), (q 15, .inl (T 0, 6, .inl (S 15))), (q 16, .inl (T 0, 2, .inl (S 16)))] H := hP
  have hD : va_D A [(w 0, .inr (7, [.ref (q 0), .ref (qz 0), .ref (h 0), .ref (t 0), .ref (gr 0), .ref (u 0), .ref (tr 0), .ref (oc 0), .int (Sw 0 8)])), (oc 0, .inr (2, [.int (pFHo S rr 3), .int (pHe S rr), .int (pUn S rr), .int (pCa S rr mm), .int (pRa S rr mm)])), (q 0, .inr (3, [.int (S 0 0), .int (S 0 1), .int (S 0 2), .int (S 0 3), .ref (q 5), .ref (q 6), .ref (q 7), .ref (q 8), .ref (q 9), .ref (q 10), .ref (q 11), .ref (q 12), .ref (q 13), .ref (q 14), .ref (q 15), .ref (q 16)])), (q 5, .inl (T 0, 2, .inl (S 5))), (q 6, .inl (T 0, 20, .inl (S 6))), (q 7, .inl (T 0, 160, .inl (S 7))), (q 8, .inl (T 0, 20, .inl (S 8))), (q 9, .inl (T 0, 20, .inl (S 9))), (q 10, .inl (T 0, 20, .inl (S 10))), (q 11, .inl (T 0, 6, .inl (S 11))), (q 12, .inl (T 0, 6, .inl (S 12))), (q 13, .inl (T 0, 6, .inl (S 13))), (q 14, .inl (T 0, 6, .inl (S 14))), (q 15, .inl (T 0, 6, .inl (S 15))), (q 16, .inl (T 0, 2, .inl (S 16)))] := hD
  refine lv_aload_n hx hb dX7_soundWhistle_13 rfl (lv_at hl 0 rfl) ?_
  refine va_get (D := G) (ci := 7) (v := .ref (q 0)) (C := RX7) (T := TX7) (N := 9) hx hb hts hinX7 hown hK hP 0 rfl rfl 0 (by decide) lk10 (fun _ h9 => h9) rfl dX7_soundWhistle_14 ?_
  refine lv_iload_n hx hb dX7_soundWhistle_17 rfl (lv_at hl 1 rfl) ?_
  refine lv_iload_n hx hb dX7_soundWhistle_18 rfl (lv_at hl 2 rfl) ?_
  refine lv_aload_n hx hb dX7_soundWhistle_19 rfl (lv_at hl 0 rfl) ?_
  refine va_get (D := G) (ci := 7) (v := .ref (oc 0)) (C := RX7) (T := TX7) (N := 9) hx hb hts hinX7 hown hK hP 0 rfl rfl 7 (by decide) lk57 (fun _ h9 => h9) rfl dX7_soundWhistle_20 ?_
  refine k_rvV (As := [.int (nI rr), .int (nI mm), .ref (oc 0)]) (rest := []) (wc := oX3 T q S ++ oX2 T oc (sc (sc (sc (sc (sc O 0 (pFHo S rr 3)) 1 (pHe S rr)) 2 (pUn S rr)) 3 (pCa S rr mm)) 4 (pRa S rr mm))) (wr := oX7 w q qz h t gr u tr oc Sw) (w1 := oX3 T q (sa (sa (sa (sa (sa (sa (sc S 3 ((S 0 3) ||| ((sc (sc (sc (sc (sc O 0 (pFHo S rr 3)) 1 (pHe S rr)) 2 (pUn S rr)) 3 (pCa S rr mm)) 4 (pRa S rr mm)) 0 4))) 9 (upd (S 9) mm ((S 9) mm + nI 1))) 10 (upd (S 10) mm ((S 10) mm + pBC ((sc (sc (sc (sc (sc O 0 (pFHo S rr 3)) 1 (pHe S rr)) 2 (pUn S rr)) 3 (pCa S rr mm)) 4 (pRa S rr mm)) 0 2)))) 12 (upd (S 12) rr ((S 12) rr + pBC ((sc (sc (sc (sc (sc O 0 (pFHo S rr 3)) 1 (pHe S rr)) 2 (pUn S rr)) 3 (pCa S rr mm)) 4 (pRa S rr mm)) 0 3)))) 13 (pCU (S 13) ((sc (sc (sc (sc (sc O 0 (pFHo S rr 3)) 1 (pHe S rr)) 2 (pUn S rr)) 3 (pCa S rr mm)) 4 (pRa S rr mm)) 0 2) 6)) 14 (pCN (S 14) ((sc (sc (sc (sc (sc O 0 (pFHo S rr 3)) 1 (pHe S rr)) 2 (pUn S rr)) 3 (pCa S rr mm)) 4 (pRa S rr mm)) 0 1) ((sc (sc (sc (sc (sc O 0 (pFHo S rr 3)) 1 (pHe S rr)) 2 (pUn S rr)) 3 (pCa S rr mm)) 4 (pRa S rr mm)) 0 2) 6)) 15 (pLW (S 15) (sc (sc (sc (sc (sc O 0 (pFHo S rr 3)) 1 (pHe S rr)) 2 (pUn S rr)) 3 (pCa S rr mm)) 4 (pRa S rr mm)) rr mm)) ++ oX2 T oc (sc (sc (sc (sc (sc O 0 (pFHo S rr 3)) 1 (pHe S rr)) 2 (pUn S rr)) 3 (pCa S rr mm)) 4 (pRa S rr mm))) (d := 2) (mc := 0) (ms := 0) (isC := [2, 3, 4, 5, 6, 7, 8, 9, 10, 11, 12, 13, 14, 1]) (isR := [0]) cx (c_X3_remember l G T H.size q oc S (sc (sc (sc (sc (sc O 0 (pFHo S rr 3)) 1 (pHe S rr)) 2 (pUn S rr)) 3 (pCa S rr mm)) 4 (pRa S rr mm)) rr mm (by omega) (by omega)) (cwV 3 hts gX7_soundWhistle_X3_remember rfl rfl rfl (by decide +kernel) ⟨Nat.le_of_ble_eq_true rfl, Nat.le_of_ble_eq_true rfl⟩) ⟨hP, hD, hS, hA, hE, hK, rfl, rfl, rfl, rfl, by decide⟩ (va_recv hK hP (ci := 3) (q0 := 2) rfl rfl) rfl hl.1 rfl (Nat.le_of_ble_eq_true rfl) dX7_soundWhistle_23 ⟨Nat.le_of_ble_eq_true rfl, Nat.le_of_ble_eq_true rfl⟩ (fun H locs hP hD hS hz => ?_)
  have hP : va_P G vwCl [(w 0, .inr (7, [.ref (q 0), .ref (qz 0), .ref (h 0), .ref (t 0), .ref (gr 0), .ref (u 0), .ref (tr 0), .ref (oc 0), .int (Sw 0 8)])), (oc 0, .inr (2, [.int (pFHo S rr 3), .int (pHe S rr), .int (pUn S rr), .int (pCa S rr mm), .int (pRa S rr mm)])), (q 0, .inr (3, [.int (S 0 0), .int (S 0 1), .int (S 0 2), .int (((S 0 3)) ||| ((pRa S rr mm))), .ref (q 5), .ref (q 6), .ref (q 7), .ref (q 8), .ref (q 9), .ref (q 10), .ref (q 11), .ref (q 12), .ref (q 13), .ref (q 14), .ref (q 15), .ref (q 16)])), (q 5, .inl (T 0, 2, .inl (S 5))), (q 6, .inl (T 0, 20, .inl (S 6))), (q 7, .inl (T 0, 160, .inl (S 7))), (q 8, .inl (T 0, 20, .inl (S 8))), (q 9, .inl (T 0, 20, .inl (upd ((S 9)) mm (((S 9)) mm + nI 1)))), (q 10, .inl (T 0, 20, .inl (upd ((S 10)) mm (((S 10)) mm + pBC ((pUn S rr)))))), (q 11, .inl (T 0, 6, .inl (S 11))), (q 12, .inl (T 0, 6, .inl (upd ((S 12)) rr (((S 12)) rr + pBC ((pCa S rr mm)))))), (q 13, .inl (T 0, 6, .inl (pCU ((S 13)) ((pUn S rr)) 6))), (q 14, .inl (T 0, 6, .inl (pCN ((S 14)) ((pHe S rr)) ((pUn S rr)) 6))), (q 15, .inl (T 0, 6, .inl (pLW ((S 15)) (sc (sc (sc (sc (sc O 0 (pFHo S rr 3)) 1 (pHe S rr)) 2 (pUn S rr)) 3 (pCa S rr mm)) 4 (pRa S rr mm)) rr mm))), (q 16, .inl (T 0, 2, .inl (S 16)))] H := kN.sub (is := [0, 14, 1, 2, 3, 4, 5, 6, 7, 8, 9, 10, 11, 12, 13]) hP rfl
  have hD : va_D A [(w 0, .inr (7, [.ref (q 0), .ref (qz 0), .ref (h 0), .ref (t 0), .ref (gr 0), .ref (u 0), .ref (tr 0), .ref (oc 0), .int (Sw 0 8)])), (oc 0, .inr (2, [.int (pFHo S rr 3), .int (pHe S rr), .int (pUn S rr), .int (pCa S rr mm), .int (pRa S rr mm)])), (q 0, .inr (3, [.int (S 0 0), .int (S 0 1), .int (S 0 2), .int (((S 0 3)) ||| ((pRa S rr mm))), .ref (q 5), .ref (q 6), .ref (q 7), .ref (q 8), .ref (q 9), .ref (q 10), .ref (q 11), .ref (q 12), .ref (q 13), .ref (q 14), .ref (q 15), .ref (q 16)])), (q 5, .inl (T 0, 2, .inl (S 5))), (q 6, .inl (T 0, 20, .inl (S 6))), (q 7, .inl (T 0, 160, .inl (S 7))), (q 8, .inl (T 0, 20, .inl (S 8))), (q 9, .inl (T 0, 20, .inl (upd ((S 9)) mm (((S 9)) mm + nI 1)))), (q 10, .inl (T 0, 20, .inl (upd ((S 10)) mm (((S 10)) mm + pBC ((pUn S rr)))))), (q 11, .inl (T 0, 6, .inl (S 11))), (q 12, .inl (T 0, 6, .inl (upd ((S 12)) rr (((S 12)) rr + pBC ((pCa S rr mm)))))), (q 13, .inl (T 0, 6, .inl (pCU ((S 13)) ((pUn S rr)) 6))), (q 14, .inl (T 0, 6, .inl (pCN ((S 14)) ((pHe S rr)) ((pUn S rr)) 6))), (q 15, .inl (T 0, 6, .inl (pLW ((S 15)) (sc (sc (sc (sc (sc O 0 (pFHo S rr 3)) 1 (pHe S rr)) 2 (pUn S rr)) 3 (pCa S rr mm)) 4 (pRa S rr mm)) rr mm))), (q 16, .inl (T 0, 2, .inl (S 16)))] := hD.sub [0, 14, 1, 2, 3, 4, 5, 6, 7, 8, 9, 10, 11, 12, 13] rfl rfl
  refine lv_aload_n hx hb dX7_soundWhistle_26 rfl (lv_at hl 0 rfl) ?_
  refine va_get (D := G) (ci := 7) (v := .ref (oc 0)) (C := RX7) (T := TX7) (N := 9) hx hb hts hinX7 hown hK hP 0 rfl rfl 7 (by decide) lk57 (fun _ h9 => h9) rfl dX7_soundWhistle_27 ?_
  refine va_get (D := G) (ci := 2) (v := .int (pUn S rr)) (C := RX2) (T := TX2) (N := 5) hx hb hts hinX2 hown hK hP 1 rfl rfl 2 (by decide) lk296 (fun _ h9 => h9) rfl dX7_soundWhistle_30 ?_
  refine k_roS (As := [.int (pUn S rr)]) (rest := []) (wc := []) (d := 0) (v := pBC (pUn S rr)) cx (c_J6_bitCount_0f7a4 l G T A (pUn S rr) ) (va_cwS 1 hts gX7_soundWhistle_J6_bitCount_0f7a4 rfl rfl rfl (by decide +kernel) ⟨Nat.le_of_ble_eq_true rfl, Nat.le_of_ble_eq_true rfl⟩) (hP.sub (ws' := []) [] rfl) hK (hE.kept hS.2.1) rfl hl.1 rfl (Nat.le_of_ble_eq_true rfl) dX7_soundWhistle_33 ⟨Nat.le_of_ble_eq_true rfl, Nat.le_of_ble_eq_true rfl⟩ ?_
  subst hQ
  have hP9 : va_P G vwCl (oX7 w q qz h t gr u tr oc Sw ++ oX2 T oc (pFor O S rr mm) ++ oX3 T q (pRem S (pFor O S rr mm) rr mm)) H := hP
  have hD9 : va_D A (oX7 w q qz h t gr u tr oc Sw ++ oX2 T oc (pFor O S rr mm) ++ oX3 T q (pRem S (pFor O S rr mm) rr mm)) := hD
  exact e_rwi hx hb hr hlocks hS rfl hP9 hD9 dX7_soundWhistle_36
set_option maxHeartbeats 4000000 in
set_option maxRecDepth 100000 in
theorem c_X7_whistle (l : Launch) (G : va_G) (T : Nat → ClassId) (sz : Nat) (w : Nat → Nat) (q : Nat → Nat) (qz : Nat → Nat) (h : Nat → Nat) (t : Nat → Nat) (gr : Nat → Nat) (u : Nat → Nat) (tr : Nat → Nat) (oc : Nat → Nat) (Sw : Nat → Nat → Int32) (S : Nat → Nat → Int32) (Sh : Nat → Nat → Int32) (qs : Nat → Nat → Nat) (Hs : Nat → Nat → Nat → Int32) (o : Nat) (n : Nat) (O : Nat → Nat → Int32) (rr : Nat) (mm : Nat) (ho : Sh 0 1 = nI o) (hn : Sh 0 2 = nI n) (ho6 : o < 6) (hn6 : n ≤ 6) (hr6 : rr < 6) (hm20 : mm < 20) (hwhy : pWhy S rr mm = 0) : RWi l yX7_whistle wsX7_whistle 6 0 0 G T sz (oX7 w q qz h t gr u tr oc Sw ++ oX3 T q S ++ oX2 T oc O ++ oX1 T h qs Sh Hs) [.ref (w 0), .int (nI rr), .int (nI mm)] (pBC (pUn S rr)) (oX7 w q qz h t gr u tr oc Sw ++ oX3 T q (pRem S (pFor O S rr mm) rr mm) ++ oX2 T oc (pFor O S rr mm) ++ oX1 T h qs (sc (sc Sh 1 (nI (hPo o n))) 2 (nI (hPn n))) (updS Hs (hPi o n) S)) := by
  refine Met.ofW (cc := cX7_whistle) (maxL := 3) (ret := (some .int)) (by decide) rfl ?_
  intro p e s m args below meth c s₁ B hml hv
  obtain ⟨ha, hsz, hP, hK, hD0, hE0⟩ := hv
  have hx := B.exec
  have hb := B.bytes
  have hr := B.returns
  have hlocks := B.notSynchronized
  have hts := atoms_spec (ws := wsX7_whistle) B.pre
  have hown : s.vm.findClass RX7 = some m.cls := findClass_of_methodNamed B.named
  have cx : CallFix p m c cX7_whistle 3 s args wsX7_whistle RX7 := ⟨hx, hb, hml, hown, hts⟩
  subst hsz
  have hD := hD0.self (sz := s.heap.size)
  generalize hAe : va_A (oX7 w q qz h t gr u tr oc Sw ++ oX3 T q S ++ oX2 T oc O ++ oX1 T h qs Sh Hs) s.heap.size = A at hD hE0 ⊢
  have hE : gE A s s.heap := hE0
  have hA : ∀ q : Nat, s.heap.size ≤ q → A q := fun q h => by rw [← hAe]; exact Or.inr h
  have hS : va_S A s.heap s.heap [] := va_S.rf
  refine w_entry ha (Nat.le_of_ble_eq_true rfl) (fun ls hl => ?_)
  refine w_q (fun Q0 hQ => ?_)
  have lk10 := hts (.fieldLink RX7 10 "WhistleTunes" "school" "LWhistleTunes$School;") (by decide +kernel)
  have hinX7 : ∀ w ∈ wsX70, w ∈ wsX7_whistle := by decide +kernel
  have lk22 := hts (.fieldLink RX7 22 "WhistleTunes" "history" "LWhistleTunes$History;") (by decide +kernel)
  have hl : lv_has ls 3 [(0, .ref (w 0)), (1, .int (nI rr)), (2, .int (nI mm))] := hl
  have hP : va_P G vwCl ([(w 0, .inr (7, [.ref (q 0), .ref (qz 0), .ref (h 0), .ref (t 0), .ref (gr 0), .ref (u 0), .ref (tr 0), .ref (oc 0), .int (Sw 0 8)])), (q 0, .inr (3, [.int (S 0 0), .int (S 0 1), .int (S 0 2), .int (S 0 3), .ref (q 5), .ref (q 6), .ref (q 7), .ref (q 8), .ref (q 9), .ref (q 10), .ref (q 11), .ref (q 12), .ref (q 13), .ref (q 14), .ref (q 15), .ref (q 16)])), (q 5, .inl (T 0, 2, .inl (S 5))), (q 6, .inl (T 0, 20, .inl (S 6))), (q 7, .inl (T 0, 160, .inl (S 7))), (q 8, .inl (T 0, 20, .inl (S 8))), (q 9, .inl (T 0, 20, .inl (S 9))), (q 10, .inl (T 0, 20, .inl (S 10))), (q 11, .inl (T 0, 6, .inl (S 11))), (q 12, .inl (T 0, 6, .inl (S 12))), (q 13, .inl (T 0, 6, .inl (S 13))), (q 14, .inl (T 0, 6, .inl (S 14))), (q 15, .inl (T 0, 6, .inl (S 15))), (q 16, .inl (T 0, 2, .inl (S 16))), (oc 0, .inr (2, [.int (O 0 0), .int (O 0 1), .int (O 0 2), .int (O 0 3), .int (O 0 4)]))] ++ oX1 T h qs Sh Hs) s.heap := hP
  have hD : va_D A ([(w 0, .inr (7, [.ref (q 0), .ref (qz 0), .ref (h 0), .ref (t 0), .ref (gr 0), .ref (u 0), .ref (tr 0), .ref (oc 0), .int (Sw 0 8)])), (q 0, .inr (3, [.int (S 0 0), .int (S 0 1), .int (S 0 2), .int (S 0 3), .ref (q 5), .ref (q 6), .ref (q 7), .ref (q 8), .ref (q 9), .ref (q 10), .ref (q 11), .ref (q 12), .ref (q 13), .ref (q 14), .ref (q 15), .ref (q 16)])), (q 5, .inl (T 0, 2, .inl (S 5))), (q 6, .inl (T 0, 20, .inl (S 6))), (q 7, .inl (T 0, 160, .inl (S 7))), (q 8, .inl (T 0, 20, .inl (S 8))), (q 9, .inl (T 0, 20, .inl (S 9))), (q 10, .inl (T 0, 20, .inl (S 10))), (q 11, .inl (T 0, 6, .inl (S 11))), (q 12, .inl (T 0, 6, .inl (S 12))), (q 13, .inl (T 0, 6, .inl (S 13))), (q 14, .inl (T 0, 6, .inl (S 14))), (q 15, .inl (T 0, 6, .inl (S 15))), (q 16, .inl (T 0, 2, .inl (S 16))), (oc 0, .inr (2, [.int (O 0 0), .int (O 0 1), .int (O 0 2), .int (O 0 3), .int (O 0 4)]))] ++ oX1 T h qs Sh Hs) := hD
  skip
  refine w_h (fun H locs hHe hLe => ?_)
  have hP : va_P G vwCl ([(w 0, .inr (7, [.ref (q 0), .ref (qz 0), .ref (h 0), .ref (t 0), .ref (gr 0), .ref (u 0), .ref (tr 0), .ref (oc 0), .int (Sw 0 8)])), (q 0, .inr (3, [.int (S 0 0), .int (S 0 1), .int (S 0 2), .int (S 0 3), .ref (q 5), .ref (q 6), .ref (q 7), .ref (q 8), .ref (q 9), .ref (q 10), .ref (q 11), .ref (q 12), .ref (q 13), .ref (q 14), .ref (q 15), .ref (q 16)])), (q 5, .inl (T 0, 2, .inl (S 5))), (q 6, .inl (T 0, 20, .inl (S 6))), (q 7, .inl (T 0, 160, .inl (S 7))), (q 8, .inl (T 0, 20, .inl (S 8))), (q 9, .inl (T 0, 20, .inl (S 9))), (q 10, .inl (T 0, 20, .inl (S 10))), (q 11, .inl (T 0, 6, .inl (S 11))), (q 12, .inl (T 0, 6, .inl (S 12))), (q 13, .inl (T 0, 6, .inl (S 13))), (q 14, .inl (T 0, 6, .inl (S 14))), (q 15, .inl (T 0, 6, .inl (S 15))), (q 16, .inl (T 0, 2, .inl (S 16))), (oc 0, .inr (2, [.int (O 0 0), .int (O 0 1), .int (O 0 2), .int (O 0 3), .int (O 0 4)]))] ++ oX1 T h qs Sh Hs) H := by rw [hHe]; exact hP
  have hS : va_S A s.heap H locs := by rw [hHe, hLe]; exact hS
  refine lv_iload_n hx hb dX7_whistle_0 rfl (lv_at hl 1 rfl) ?_
  refine k_roS (As := [.int (nI rr)]) (rest := []) (wc := []) (d := 0) (v := bI (pBt (nI rr) 6)) cx (c_X7_isRoom l G T A (nI rr) ) (va_cwS 1 hts gX7_whistle_X7_isRoom rfl rfl rfl (by decide +kernel) ⟨Nat.le_of_ble_eq_true rfl, Nat.le_of_ble_eq_true rfl⟩) (hP.sub (ws' := []) [] rfl) hK (hE.kept hS.2.1) rfl hl.1 rfl (Nat.le_of_ble_eq_true rfl) dX7_whistle_1 ⟨Nat.le_of_ble_eq_true rfl, Nat.le_of_ble_eq_true rfl⟩ ?_
  refine b_if_eq (b := pBt (nI rr) 6) (tgt := 14) hx hb dX7_whistle_4 (by decide) (fun c_1 => by exfalso; rw [pBt_T hr6 (by decide)] at c_1; cases c_1) (fun c_2 => ?_)
  refine lv_iload_n hx hb dX7_whistle_7 rfl (lv_at hl 2 rfl) ?_
  refine k_roS (As := [.int (nI mm)]) (rest := []) (wc := []) (d := 0) (v := bI (pBt (nI mm) 20)) cx (c_X7_isMessage l G T A (nI mm) ) (va_cwS 1 hts gX7_whistle_X7_isMessage rfl rfl rfl (by decide +kernel) ⟨Nat.le_of_ble_eq_true rfl, Nat.le_of_ble_eq_true rfl⟩) (hP.sub (ws' := []) [] rfl) hK (hE.kept hS.2.1) rfl hl.1 rfl (Nat.le_of_ble_eq_true rfl) dX7_whistle_8 ⟨Nat.le_of_ble_eq_true rfl, Nat.le_of_ble_eq_true rfl⟩ ?_
  refine b_if_ne (b := pBt (nI mm) 20) (tgt := 24) hx hb dX7_whistle_11 (by decide) (fun c_3 => ?_) (fun c_4 => by exfalso; rw [pBt_T hm20 (by decide)] at c_4; cases c_4)
  refine lv_aload_n hx hb dX7_whistle_24 rfl (lv_at hl 0 rfl) ?_
  refine va_get (D := G) (ci := 7) (v := .ref (q 0)) (C := RX7) (T := TX7) (N := 9) hx hb hts hinX7 hown hK hP 0 rfl rfl 0 (by decide) lk10 (fun _ h9 => h9) rfl dX7_whistle_25 ?_
  refine lv_iload_n hx hb dX7_whistle_28 rfl (lv_at hl 1 rfl) ?_
  refine lv_iload_n hx hb dX7_whistle_29 rfl (lv_at hl 2 rfl) ?_
  refine k_roV (As := [.int (nI rr), .int (nI mm)]) (rest := []) (wc := oX3 T q S) (d := 1) (v := pWhy S rr mm) cx (c_X3_reasonAgainst l G T A q S rr mm (by omega) (by omega)) (cwV 2 hts gX7_whistle_X3_reasonAgainst rfl rfl rfl (by decide +kernel) ⟨Nat.le_of_ble_eq_true rfl, Nat.le_of_ble_eq_true rfl⟩) (hP.sub (ws' := oX3 T q S) [1, 2, 3, 4, 5, 6, 7, 8, 9, 10, 11, 12, 13] rfl) hK (hE.kept hS.2.1) (va_recv hK hP (ci := 3) (q0 := 1) rfl rfl) rfl hl.1 rfl (Nat.le_of_ble_eq_true rfl) dX7_whistle_30 ⟨Nat.le_of_ble_eq_true rfl, Nat.le_of_ble_eq_true rfl⟩ ?_
  refine lv_if_eq (tgt := 46) hx hb dX7_whistle_33 (by decide) (fun c_5 => ?_) (fun c_6 => by exfalso; exact c_6 hwhy)
  refine lv_aload_n hx hb dX7_whistle_46 rfl (lv_at hl 0 rfl) ?_
  refine va_get (D := G) (ci := 7) (v := .ref (h 0)) (C := RX7) (T := TX7) (N := 9) hx hb hts hinX7 hown hK hP 0 rfl rfl 2 (by decide) lk22 (fun _ h9 => h9) rfl dX7_whistle_47 ?_
  refine lv_aload_n hx hb dX7_whistle_50 rfl (lv_at hl 0 rfl) ?_
  refine va_get (D := G) (ci := 7) (v := .ref (q 0)) (C := RX7) (T := TX7) (N := 9) hx hb hts hinX7 hown hK hP 0 rfl rfl 0 (by decide) lk10 (fun _ h9 => h9) rfl dX7_whistle_51 ?_
  refine k_rvV (As := [.ref (q 0)]) (rest := []) (wc := oX1 T h qs Sh Hs ++ oX3 T q S) (wr := oX7 w q qz h t gr u tr oc Sw ++ oX2 T oc O) (w1 := oX1 T h qs (sc (sc Sh 1 (nI (hPo o n))) 2 (nI (hPn n))) (updS Hs (hPi o n) S) ++ oX3 T q S) (d := 2) (mc := 0) (ms := 0) (isC := [15, 16, 17, 18, 19, 20, 21, 22, 23, 24, 25, 26, 27, 28, 29, 30, 31, 32, 33, 34, 35, 36, 37, 38, 39, 40, 41, 42, 43, 44, 45, 46, 47, 48, 49, 50, 51, 52, 53, 54, 55, 56, 57, 58, 59, 60, 61, 62, 63, 64, 65, 66, 67, 68, 69, 70, 71, 72, 73, 74, 75, 76, 77, 78, 79, 80, 81, 82, 83, 84, 85, 86, 87, 88, 89, 90, 91, 92, 93, 94, 1, 2, 3, 4, 5, 6, 7, 8, 9, 10, 11, 12, 13]) (isR := [0, 14]) cx (c_X1_push l G T H.size h qs Sh Hs q S o n (by first | assumption | rfl | omega) (by first | assumption | rfl | omega) (by omega) (by omega)) (cwV 1 hts gX7_whistle_X1_push rfl rfl rfl (by decide +kernel) ⟨Nat.le_of_ble_eq_true rfl, Nat.le_of_ble_eq_true rfl⟩) ⟨hP, hD, hS, hA, hE, hK, rfl, rfl, rfl, rfl, by decide⟩ (va_recv hK hP (ci := 1) (q0 := 15) rfl rfl) rfl hl.1 rfl (Nat.le_of_ble_eq_true rfl) dX7_whistle_54 ⟨Nat.le_of_ble_eq_true rfl, Nat.le_of_ble_eq_true rfl⟩ (fun H locs hP hD hS hz => ?_)
  have hP : va_P G vwCl ([(w 0, .inr (7, [.ref (q 0), .ref (qz 0), .ref (h 0), .ref (t 0), .ref (gr 0), .ref (u 0), .ref (tr 0), .ref (oc 0), .int (Sw 0 8)])), (q 0, .inr (3, [.int (S 0 0), .int (S 0 1), .int (S 0 2), .int (S 0 3), .ref (q 5), .ref (q 6), .ref (q 7), .ref (q 8), .ref (q 9), .ref (q 10), .ref (q 11), .ref (q 12), .ref (q 13), .ref (q 14), .ref (q 15), .ref (q 16)])), (q 5, .inl (T 0, 2, .inl (S 5))), (q 6, .inl (T 0, 20, .inl (S 6))), (q 7, .inl (T 0, 160, .inl (S 7))), (q 8, .inl (T 0, 20, .inl (S 8))), (q 9, .inl (T 0, 20, .inl (S 9))), (q 10, .inl (T 0, 20, .inl (S 10))), (q 11, .inl (T 0, 6, .inl (S 11))), (q 12, .inl (T 0, 6, .inl (S 12))), (q 13, .inl (T 0, 6, .inl (S 13))), (q 14, .inl (T 0, 6, .inl (S 14))), (q 15, .inl (T 0, 6, .inl (S 15))), (q 16, .inl (T 0, 2, .inl (S 16))), (oc 0, .inr (2, [.int (O 0 0), .int (O 0 1), .int (O 0 2), .int (O 0 3), .int (O 0 4)]))] ++ oX1 T h qs (sc (sc Sh 1 (nI (hPo o n))) 2 (nI (hPn n))) (updS Hs (hPi o n) S)) H := kN.sub (is := [0, 82, 83, 84, 85, 86, 87, 88, 89, 90, 91, 92, 93, 94, 1, 2, 3, 4, 5, 6, 7, 8, 9, 10, 11, 12, 13, 14, 15, 16, 17, 18, 19, 20, 21, 22, 23, 24, 25, 26, 27, 28, 29, 30, 31, 32, 33, 34, 35, 36, 37, 38, 39, 40, 41, 42, 43, 44, 45, 46, 47, 48, 49, 50, 51, 52, 53, 54, 55, 56, 57, 58, 59, 60, 61, 62, 63, 64, 65, 66, 67, 68, 69, 70, 71, 72, 73, 74, 75, 76, 77, 78, 79, 80, 81]) hP rfl
  have hD : va_D A ([(w 0, .inr (7, [.ref (q 0), .ref (qz 0), .ref (h 0), .ref (t 0), .ref (gr 0), .ref (u 0), .ref (tr 0), .ref (oc 0), .int (Sw 0 8)])), (q 0, .inr (3, [.int (S 0 0), .int (S 0 1), .int (S 0 2), .int (S 0 3), .ref (q 5), .ref (q 6), .ref (q 7), .ref (q 8), .ref (q 9), .ref (q 10), .ref (q 11), .ref (q 12), .ref (q 13), .ref (q 14), .ref (q 15), .ref (q 16)])), (q 5, .inl (T 0, 2, .inl (S 5))), (q 6, .inl (T 0, 20, .inl (S 6))), (q 7, .inl (T 0, 160, .inl (S 7))), (q 8, .inl (T 0, 20, .inl (S 8))), (q 9, .inl (T 0, 20, .inl (S 9))), (q 10, .inl (T 0, 20, .inl (S 10))), (q 11, .inl (T 0, 6, .inl (S 11))), (q 12, .inl (T 0, 6, .inl (S 12))), (q 13, .inl (T 0, 6, .inl (S 13))), (q 14, .inl (T 0, 6, .inl (S 14))), (q 15, .inl (T 0, 6, .inl (S 15))), (q 16, .inl (T 0, 2, .inl (S 16))), (oc 0, .inr (2, [.int (O 0 0), .int (O 0 1), .int (O 0 2), .int (O 0 3), .int (O 0 4)]))] ++ oX1 T h qs (sc (sc Sh 1 (nI (hPo o n))) 2 (nI (hPn n))) (updS Hs (hPi o n) S)) := hD.sub [0, 82, 83, 84, 85, 86, 87, 88, 89, 90, 91, 92, 93, 94, 1, 2, 3, 4, 5, 6, 7, 8, 9, 10, 11, 12, 13, 14, 15, 16, 17, 18, 19, 20, 21, 22, 23, 24, 25, 26, 27, 28, 29, 30, 31, 32, 33, 34, 35, 36, 37, 38, 39, 40, 41, 42, 43, 44, 45, 46, 47, 48, 49, 50, 51, 52, 53, 54, 55, 56, 57, 58, 59, 60, 61, 62, 63, 64, 65, 66, 67, 68, 69, 70, 71, 72, 73, 74, 75, 76, 77, 78, 79, 80, 81] rfl rfl
  refine lv_aload_n hx hb dX7_whistle_57 rfl (lv_at hl 0 rfl) ?_
  refine lv_iload_n hx hb dX7_whistle_58 rfl (lv_at hl 1 rfl) ?_
  refine lv_iload_n hx hb dX7_whistle_59 rfl (lv_at hl 2 rfl) ?_
  refine k_rwV (As := [.int (nI rr), .int (nI mm)]) (rest := []) (wc := oX7 w q qz h t gr u tr oc Sw ++ oX2 T oc O ++ oX3 T q S) (wr := oX1 T h qs (sc (sc Sh 1 (nI (hPo o n))) 2 (nI (hPn n))) (updS Hs (hPi o n) S)) (w1 := oX7 w q qz h t gr u tr oc Sw ++ oX2 T oc (pFor O S rr mm) ++ oX3 T q (pRem S (pFor O S rr mm) rr mm)) (d := 4) (mc := 0) (ms := 0) (v := pBC (pUn S rr)) (isC := [0, 14, 1, 2, 3, 4, 5, 6, 7, 8, 9, 10, 11, 12, 13]) (isR := [15, 16, 17, 18, 19, 20, 21, 22, 23, 24, 25, 26, 27, 28, 29, 30, 31, 32, 33, 34, 35, 36, 37, 38, 39, 40, 41, 42, 43, 44, 45, 46, 47, 48, 49, 50, 51, 52, 53, 54, 55, 56, 57, 58, 59, 60, 61, 62, 63, 64, 65, 66, 67, 68, 69, 70, 71, 72, 73, 74, 75, 76, 77, 78, 79, 80, 81, 82, 83, 84, 85, 86, 87, 88, 89, 90, 91, 92, 93, 94]) cx (c_X7_soundWhistle l G T H.size w q qz h t gr u tr oc Sw O S rr mm (by omega) (by omega)) (cwV 2 hts gX7_whistle_X7_soundWhistle rfl rfl rfl (by decide +kernel) ⟨Nat.le_of_ble_eq_true rfl, Nat.le_of_ble_eq_true rfl⟩) ⟨hP, hD, hS, hA, hE, hK, rfl, rfl, rfl, rfl, by decide⟩ (va_recv hK hP (ci := 7) (q0 := 0) rfl rfl) rfl hl.1 rfl (Nat.le_of_ble_eq_true rfl) dX7_whistle_60 ⟨Nat.le_of_ble_eq_true rfl, Nat.le_of_ble_eq_true rfl⟩ (fun H locs hP hD hS hz => ?_)
  have hP : va_P G vwCl ([(w 0, .inr (7, [.ref (q 0), .ref (qz 0), .ref (h 0), .ref (t 0), .ref (gr 0), .ref (u 0), .ref (tr 0), .ref (oc 0), .int (Sw 0 8)])), (q 0, .inr (3, [.int ((pRem S (pFor O S rr mm) rr mm) 0 0), .int ((pRem S (pFor O S rr mm) rr mm) 0 1), .int ((pRem S (pFor O S rr mm) rr mm) 0 2), .int ((pRem S (pFor O S rr mm) rr mm) 0 3), .ref (q 5), .ref (q 6), .ref (q 7), .ref (q 8), .ref (q 9), .ref (q 10), .ref (q 11), .ref (q 12), .ref (q 13), .ref (q 14), .ref (q 15), .ref (q 16)])), (q 5, .inl (T 0, 2, .inl ((pRem S (pFor O S rr mm) rr mm) 5))), (q 6, .inl (T 0, 20, .inl ((pRem S (pFor O S rr mm) rr mm) 6))), (q 7, .inl (T 0, 160, .inl ((pRem S (pFor O S rr mm) rr mm) 7))), (q 8, .inl (T 0, 20, .inl ((pRem S (pFor O S rr mm) rr mm) 8))), (q 9, .inl (T 0, 20, .inl ((pRem S (pFor O S rr mm) rr mm) 9))), (q 10, .inl (T 0, 20, .inl ((pRem S (pFor O S rr mm) rr mm) 10))), (q 11, .inl (T 0, 6, .inl ((pRem S (pFor O S rr mm) rr mm) 11))), (q 12, .inl (T 0, 6, .inl ((pRem S (pFor O S rr mm) rr mm) 12))), (q 13, .inl (T 0, 6, .inl ((pRem S (pFor O S rr mm) rr mm) 13))), (q 14, .inl (T 0, 6, .inl ((pRem S (pFor O S rr mm) rr mm) 14))), (q 15, .inl (T 0, 6, .inl ((pRem S (pFor O S rr mm) rr mm) 15))), (q 16, .inl (T 0, 2, .inl ((pRem S (pFor O S rr mm) rr mm) 16))), (oc 0, .inr (2, [.int ((pFor O S rr mm) 0 0), .int ((pFor O S rr mm) 0 1), .int ((pFor O S rr mm) 0 2), .int ((pFor O S rr mm) 0 3), .int ((pFor O S rr mm) 0 4)]))] ++ oX1 T h qs (sc (sc Sh 1 (nI (hPo o n))) 2 (nI (hPn n))) (updS Hs (hPi o n) S)) H := kN.sub (is := [80, 82, 83, 84, 85, 86, 87, 88, 89, 90, 91, 92, 93, 94, 81, 0, 1, 2, 3, 4, 5, 6, 7, 8, 9, 10, 11, 12, 13, 14, 15, 16, 17, 18, 19, 20, 21, 22, 23, 24, 25, 26, 27, 28, 29, 30, 31, 32, 33, 34, 35, 36, 37, 38, 39, 40, 41, 42, 43, 44, 45, 46, 47, 48, 49, 50, 51, 52, 53, 54, 55, 56, 57, 58, 59, 60, 61, 62, 63, 64, 65, 66, 67, 68, 69, 70, 71, 72, 73, 74, 75, 76, 77, 78, 79]) hP rfl
  have hD : va_D A ([(w 0, .inr (7, [.ref (q 0), .ref (qz 0), .ref (h 0), .ref (t 0), .ref (gr 0), .ref (u 0), .ref (tr 0), .ref (oc 0), .int (Sw 0 8)])), (q 0, .inr (3, [.int ((pRem S (pFor O S rr mm) rr mm) 0 0), .int ((pRem S (pFor O S rr mm) rr mm) 0 1), .int ((pRem S (pFor O S rr mm) rr mm) 0 2), .int ((pRem S (pFor O S rr mm) rr mm) 0 3), .ref (q 5), .ref (q 6), .ref (q 7), .ref (q 8), .ref (q 9), .ref (q 10), .ref (q 11), .ref (q 12), .ref (q 13), .ref (q 14), .ref (q 15), .ref (q 16)])), (q 5, .inl (T 0, 2, .inl ((pRem S (pFor O S rr mm) rr mm) 5))), (q 6, .inl (T 0, 20, .inl ((pRem S (pFor O S rr mm) rr mm) 6))), (q 7, .inl (T 0, 160, .inl ((pRem S (pFor O S rr mm) rr mm) 7))), (q 8, .inl (T 0, 20, .inl ((pRem S (pFor O S rr mm) rr mm) 8))), (q 9, .inl (T 0, 20, .inl ((pRem S (pFor O S rr mm) rr mm) 9))), (q 10, .inl (T 0, 20, .inl ((pRem S (pFor O S rr mm) rr mm) 10))), (q 11, .inl (T 0, 6, .inl ((pRem S (pFor O S rr mm) rr mm) 11))), (q 12, .inl (T 0, 6, .inl ((pRem S (pFor O S rr mm) rr mm) 12))), (q 13, .inl (T 0, 6, .inl ((pRem S (pFor O S rr mm) rr mm) 13))), (q 14, .inl (T 0, 6, .inl ((pRem S (pFor O S rr mm) rr mm) 14))), (q 15, .inl (T 0, 6, .inl ((pRem S (pFor O S rr mm) rr mm) 15))), (q 16, .inl (T 0, 2, .inl ((pRem S (pFor O S rr mm) rr mm) 16))), (oc 0, .inr (2, [.int ((pFor O S rr mm) 0 0), .int ((pFor O S rr mm) 0 1), .int ((pFor O S rr mm) 0 2), .int ((pFor O S rr mm) 0 3), .int ((pFor O S rr mm) 0 4)]))] ++ oX1 T h qs (sc (sc Sh 1 (nI (hPo o n))) 2 (nI (hPn n))) (updS Hs (hPi o n) S)) := hD.sub [80, 82, 83, 84, 85, 86, 87, 88, 89, 90, 91, 92, 93, 94, 81, 0, 1, 2, 3, 4, 5, 6, 7, 8, 9, 10, 11, 12, 13, 14, 15, 16, 17, 18, 19, 20, 21, 22, 23, 24, 25, 26, 27, 28, 29, 30, 31, 32, 33, 34, 35, 36, 37, 38, 39, 40, 41, 42, 43, 44, 45, 46, 47, 48, 49, 50, 51, 52, 53, 54, 55, 56, 57, 58, 59, 60, 61, 62, 63, 64, 65, 66, 67, 68, 69, 70, 71, 72, 73, 74, 75, 76, 77, 78, 79] rfl rfl
  subst hQ
  have hP9 : va_P G vwCl (oX7 w q qz h t gr u tr oc Sw ++ oX3 T q (pRem S (pFor O S rr mm) rr mm) ++ oX2 T oc (pFor O S rr mm) ++ oX1 T h qs (sc (sc Sh 1 (nI (hPo o n))) 2 (nI (hPn n))) (updS Hs (hPi o n) S)) H := hP
  have hD9 : va_D A (oX7 w q qz h t gr u tr oc Sw ++ oX3 T q (pRem S (pFor O S rr mm) rr mm) ++ oX2 T oc (pFor O S rr mm) ++ oX1 T h qs (sc (sc Sh 1 (nI (hPo o n))) 2 (nI (hPn n))) (updS Hs (hPi o n) S)) := hD
  exact e_rwi hx hb hr hlocks hS rfl hP9 hD9 dX7_whistle_63
set_option maxHeartbeats 4000000 in
set_option maxRecDepth 100000 in
theorem c_X7_whistle_t (l : Launch) (hst : l.stackTraces = false) (G : va_G) (T : Nat → ClassId) (sz : Nat) (w : Nat → Nat) (q : Nat → Nat) (qz : Nat → Nat) (h : Nat → Nat) (t : Nat → Nat) (gr : Nat → Nat) (u : Nat → Nat) (tr : Nat → Nat) (oc : Nat → Nat) (Sw : Nat → Nat → Int32) (x : Int32) (y : Int32) (hbx : pBt x 6 = false) : RX l yX7_whistle wsX7_whistle 7 G T sz (oX7 w q qz h t gr u tr oc Sw) [.ref (w 0), .int x, .int y] (.inr "java/lang/IndexOutOfBoundsException") (oX7 w q qz h t gr u tr oc Sw) := by
  refine vx_ofW (cc := cX7_whistle) (maxL := 3) (ret := (some .int)) (by decide) rfl ?_
  intro p e s m args below meth c s₁ B hml htab hv
  obtain ⟨ha, ⟨hsz, hP, hK, hD0, hE0⟩, hC⟩ := hv
  have hx := B.exec
  have hb := B.bytes
  have hr := B.returns
  have hlocks := B.notSynchronized
  have hts := atoms_spec (ws := wsX7_whistle) B.pre
  have hown : s.vm.findClass RX7 = some m.cls := findClass_of_methodNamed B.named
  have cx : CallFix p m c cX7_whistle 3 s args wsX7_whistle RX7 := ⟨hx, hb, hml, hown, hts⟩
  subst hsz
  have hD := hD0.self (sz := s.heap.size)
  generalize hAe : va_A (oX7 w q qz h t gr u tr oc Sw) s.heap.size = A at hD hE0 ⊢
  have hE : gE A s s.heap := hE0
  have hA : ∀ q : Nat, s.heap.size ≤ q → A q := fun q h => by rw [← hAe]; exact Or.inr h
  have hS : va_S A s.heap s.heap [] := va_S.rf
  refine w_entry ha (Nat.le_of_ble_eq_true rfl) (fun ls hl => ?_)
  refine w_q (fun Q0 hQ => ?_)
  have hl : lv_has ls 3 [(0, .ref (w 0)), (1, .int x), (2, .int y)] := hl
  have hP : va_P G vwCl [(w 0, .inr (7, [.ref (q 0), .ref (qz 0), .ref (h 0), .ref (t 0), .ref (gr 0), .ref (u 0), .ref (tr 0), .ref (oc 0), .int (Sw 0 8)]))] s.heap := hP
  have hD : va_D A [(w 0, .inr (7, [.ref (q 0), .ref (qz 0), .ref (h 0), .ref (t 0), .ref (gr 0), .ref (u 0), .ref (tr 0), .ref (oc 0), .int (Sw 0 8)]))] := hD
  skip
  refine w_h (fun H locs hHe hLe => ?_)
  have hP : va_P G vwCl [(w 0, .inr (7, [.ref (q 0), .ref (qz 0), .ref (h 0), .ref (t 0), .ref (gr 0), .ref (u 0), .ref (tr 0), .ref (oc 0), .int (Sw 0 8)]))] H := by rw [hHe]; exact hP
  have hS : va_S A s.heap H locs := by rw [hHe, hLe]; exact hS
  refine lv_iload_n hx hb dX7_whistle_0 rfl (lv_at hl 1 rfl) ?_
  refine k_roS (As := [.int x]) (rest := []) (wc := []) (d := 0) (v := bI (pBt x 6)) cx (c_X7_isRoom l G T A x ) (va_cwS 1 hts gX7_whistle_X7_isRoom rfl rfl rfl (by decide +kernel) ⟨Nat.le_of_ble_eq_true rfl, Nat.le_of_ble_eq_true rfl⟩) (hP.sub (ws' := []) [] rfl) hK (hE.kept hS.2.1) rfl hl.1 rfl (Nat.le_of_ble_eq_true rfl) dX7_whistle_1 ⟨Nat.le_of_ble_eq_true rfl, Nat.le_of_ble_eq_true rfl⟩ ?_
  refine b_if_eq (b := pBt x 6) (tgt := 14) hx hb dX7_whistle_4 (by decide) (fun c_1 => ?_) (fun c_2 => by exfalso; rw [hbx] at c_2; cases c_2)
  subst hQ
  have hP9 : va_P G vwCl (oX7 w q qz h t gr u tr oc Sw) H := hP
  have hD9 : va_D A (oX7 w q qz h t gr u tr oc Sw) := hD
  exact e_thr hx hb hst (own := RX7) (cls := "java/lang/IndexOutOfBoundsException") "no such room or message" ["java/lang/RuntimeException", "java/lang/Exception"] (ik := 69) (is := 164) (ic := 73) hown (by decide +kernel) (by decide +kernel) (hts (.classLink RX7 69 "java/lang/IndexOutOfBoundsException") (by decide +kernel)) (hts (.initialized "java/lang/IndexOutOfBoundsException") (by decide +kernel)) (hE.2.1 (RX7, 164, "no such room or message") (by decide +kernel)) (xt_Z (is := 0) (ik := 0) (text := "") hC (by decide +kernel) (by decide +kernel) (fun w9 hw9 => hts w9 (List.mem_cons_of_mem _ (List.mem_append_left _ (List.mem_append_right _ hw9))))) (by decide +kernel) hE hS (hl.1.trans hml.symm) dX7_whistle_14 dX7_whistle_17 dX7_whistle_18 dX7_whistle_20 dX7_whistle_23 htab ⟨by decide, Nat.le_of_ble_eq_true rfl, Nat.le_of_ble_eq_true rfl, Nat.le_of_ble_eq_true rfl⟩ hlocks ⟨rfl, rfl⟩ rfl hP9 hD9
set_option maxHeartbeats 4000000 in
set_option maxRecDepth 100000 in
theorem c_X7_whistle_t2 (l : Launch) (hst : l.stackTraces = false) (G : va_G) (T : Nat → ClassId) (sz : Nat) (w : Nat → Nat) (q : Nat → Nat) (qz : Nat → Nat) (h : Nat → Nat) (t : Nat → Nat) (gr : Nat → Nat) (u : Nat → Nat) (tr : Nat → Nat) (oc : Nat → Nat) (Sw : Nat → Nat → Int32) (rr : Nat) (y : Int32) (hr6 : rr < 6) (hby : pBt y 20 = false) : RX l yX7_whistle wsX7_whistle 7 G T sz (oX7 w q qz h t gr u tr oc Sw) [.ref (w 0), .int (nI rr), .int y] (.inr "java/lang/IndexOutOfBoundsException") (oX7 w q qz h t gr u tr oc Sw) := by
  refine vx_ofW (cc := cX7_whistle) (maxL := 3) (ret := (some .int)) (by decide) rfl ?_
  intro p e s m args below meth c s₁ B hml htab hv
  obtain ⟨ha, ⟨hsz, hP, hK, hD0, hE0⟩, hC⟩ := hv
  have hx := B.exec
  have hb := B.bytes
  have hr := B.returns
  have hlocks := B.notSynchronized
  have hts := atoms_spec (ws := wsX7_whistle) B.pre
  have hown : s.vm.findClass RX7 = some m.cls := findClass_of_methodNamed B.named
  have cx : CallFix p m c cX7_whistle 3 s args wsX7_whistle RX7 := ⟨hx, hb, hml, hown, hts⟩
  subst hsz
  have hD := hD0.self (sz := s.heap.size)
  generalize hAe : va_A (oX7 w q qz h t gr u tr oc Sw) s.heap.size = A at hD hE0 ⊢
  have hE : gE A s s.heap := hE0
  have hA : ∀ q : Nat, s.heap.size ≤ q → A q := fun q h => by rw [← hAe]; exact Or.inr h
  have hS : va_S A s.heap s.heap [] := va_S.rf
  refine w_entry ha (Nat.le_of_ble_eq_true rfl) (fun ls hl => ?_)
  refine w_q (fun Q0 hQ => ?_)
  have hl : lv_has ls 3 [(0, .ref (w 0)), (1, .int (nI rr)), (2, .int y)] := hl
  have hP : va_P G vwCl [(w 0, .inr (7, [.ref (q 0), .ref (qz 0), .ref (h 0), .ref (t 0), .ref (gr 0), .ref (u 0), .ref (tr 0), .ref (oc 0), .int (Sw 0 8)]))] s.heap := hP
  have hD : va_D A [(w 0, .inr (7, [.ref (q 0), .ref (qz 0), .ref (h 0), .ref (t 0), .ref (gr 0), .ref (u 0), .ref (tr 0), .ref (oc 0), .int (Sw 0 8)]))] := hD
  skip
  refine w_h (fun H locs hHe hLe => ?_)
  have hP : va_P G vwCl [(w 0, .inr (7, [.ref (q 0), .ref (qz 0), .ref (h 0), .ref (t 0), .ref (gr 0), .ref (u 0), .ref (tr 0), .ref (oc 0), .int (Sw 0 8)]))] H := by rw [hHe]; exact hP
  have hS : va_S A s.heap H locs := by rw [hHe, hLe]; exact hS
  refine lv_iload_n hx hb dX7_whistle_0 rfl (lv_at hl 1 rfl) ?_
  refine k_roS (As := [.int (nI rr)]) (rest := []) (wc := []) (d := 0) (v := bI (pBt (nI rr) 6)) cx (c_X7_isRoom l G T A (nI rr) ) (va_cwS 1 hts gX7_whistle_X7_isRoom rfl rfl rfl (by decide +kernel) ⟨Nat.le_of_ble_eq_true rfl, Nat.le_of_ble_eq_true rfl⟩) (hP.sub (ws' := []) [] rfl) hK (hE.kept hS.2.1) rfl hl.1 rfl (Nat.le_of_ble_eq_true rfl) dX7_whistle_1 ⟨Nat.le_of_ble_eq_true rfl, Nat.le_of_ble_eq_true rfl⟩ ?_
  refine b_if_eq (b := pBt (nI rr) 6) (tgt := 14) hx hb dX7_whistle_4 (by decide) (fun c_1 => by exfalso; rw [pBt_T hr6 (by decide)] at c_1; cases c_1) (fun c_2 => ?_)
  refine lv_iload_n hx hb dX7_whistle_7 rfl (lv_at hl 2 rfl) ?_
  refine k_roS (As := [.int y]) (rest := []) (wc := []) (d := 0) (v := bI (pBt y 20)) cx (c_X7_isMessage l G T A y ) (va_cwS 1 hts gX7_whistle_X7_isMessage rfl rfl rfl (by decide +kernel) ⟨Nat.le_of_ble_eq_true rfl, Nat.le_of_ble_eq_true rfl⟩) (hP.sub (ws' := []) [] rfl) hK (hE.kept hS.2.1) rfl hl.1 rfl (Nat.le_of_ble_eq_true rfl) dX7_whistle_8 ⟨Nat.le_of_ble_eq_true rfl, Nat.le_of_ble_eq_true rfl⟩ ?_
  refine b_if_ne (b := pBt y 20) (tgt := 24) hx hb dX7_whistle_11 (by decide) (fun c_3 => by exfalso; rw [hby] at c_3; cases c_3) (fun c_4 => ?_)
  subst hQ
  have hP9 : va_P G vwCl (oX7 w q qz h t gr u tr oc Sw) H := hP
  have hD9 : va_D A (oX7 w q qz h t gr u tr oc Sw) := hD
  exact e_thr hx hb hst (own := RX7) (cls := "java/lang/IndexOutOfBoundsException") "no such room or message" ["java/lang/RuntimeException", "java/lang/Exception"] (ik := 69) (is := 164) (ic := 73) hown (by decide +kernel) (by decide +kernel) (hts (.classLink RX7 69 "java/lang/IndexOutOfBoundsException") (by decide +kernel)) (hts (.initialized "java/lang/IndexOutOfBoundsException") (by decide +kernel)) (hE.2.1 (RX7, 164, "no such room or message") (by decide +kernel)) (xt_Z (is := 0) (ik := 0) (text := "") hC (by decide +kernel) (by decide +kernel) (fun w9 hw9 => hts w9 (List.mem_cons_of_mem _ (List.mem_append_left _ (List.mem_append_right _ hw9))))) (by decide +kernel) hE hS (hl.1.trans hml.symm) dX7_whistle_14 dX7_whistle_17 dX7_whistle_18 dX7_whistle_20 dX7_whistle_23 htab ⟨by decide, Nat.le_of_ble_eq_true rfl, Nat.le_of_ble_eq_true rfl, Nat.le_of_ble_eq_true rfl⟩ hlocks ⟨rfl, rfl⟩ rfl hP9 hD9
set_option maxHeartbeats 4000000 in
set_option maxRecDepth 100000 in
theorem c_X7_whistle_t3 (l : Launch) (hst : l.stackTraces = false) (G : va_G) (T : Nat → ClassId) (sz : Nat) (w : Nat → Nat) (q : Nat → Nat) (qz : Nat → Nat) (h : Nat → Nat) (t : Nat → Nat) (gr : Nat → Nat) (u : Nat → Nat) (tr : Nat → Nat) (oc : Nat → Nat) (Sw : Nat → Nat → Int32) (S : Nat → Nat → Int32) (rr : Nat) (mm : Nat) (hr6 : rr < 6) (hm20 : mm < 20) (hwhy : ¬ pWhy S rr mm = 0) : RX l yX7_whistle wsX7_whistle 7 G T sz (oX7 w q qz h t gr u tr oc Sw ++ oX3 T q S) [.ref (w 0), .int (nI rr), .int (nI mm)] (.inr "java/lang/IllegalStateException") (oX7 w q qz h t gr u tr oc Sw ++ oX3 T q S) := by
  refine vx_ofW (cc := cX7_whistle) (maxL := 3) (ret := (some .int)) (by decide) rfl ?_
  intro p e s m args below meth c s₁ B hml htab hv
  obtain ⟨ha, ⟨hsz, hP, hK, hD0, hE0⟩, hC⟩ := hv
  have hx := B.exec
  have hb := B.bytes
  have hr := B.returns
  have hlocks := B.notSynchronized
  have hts := atoms_spec (ws := wsX7_whistle) B.pre
  have hown : s.vm.findClass RX7 = some m.cls := findClass_of_methodNamed B.named
  have cx : CallFix p m c cX7_whistle 3 s args wsX7_whistle RX7 := ⟨hx, hb, hml, hown, hts⟩
  subst hsz
  have hD := hD0.self (sz := s.heap.size)
  generalize hAe : va_A (oX7 w q qz h t gr u tr oc Sw ++ oX3 T q S) s.heap.size = A at hD hE0 ⊢
  have hE : gE A s s.heap := hE0
  have hA : ∀ q : Nat, s.heap.size ≤ q → A q := fun q h => by rw [← hAe]; exact Or.inr h
  have hS : va_S A s.heap s.heap [] := va_S.rf
  refine w_entry ha (Nat.le_of_ble_eq_true rfl) (fun ls hl => ?_)
  refine w_q (fun Q0 hQ => ?_)
  have lk10 := hts (.fieldLink RX7 10 "WhistleTunes" "school" "LWhistleTunes$School;") (by decide +kernel)
  have hinX7 : ∀ w ∈ wsX70, w ∈ wsX7_whistle := by decide +kernel
  have hl : lv_has ls 3 [(0, .ref (w 0)), (1, .int (nI rr)), (2, .int (nI mm))] := hl
  have hP : va_P G vwCl [(w 0, .inr (7, [.ref (q 0), .ref (qz 0), .ref (h 0), .ref (t 0), .ref (gr 0), .ref (u 0), .ref (tr 0), .ref (oc 0), .int (Sw 0 8)])), (q 0, .inr (3, [.int (S 0 0), .int (S 0 1), .int (S 0 2), .int (S 0 3), .ref (q 5), .ref (q 6), .ref (q 7), .ref (q 8), .ref (q 9), .ref (q 10), .ref (q 11), .ref (q 12), .ref (q 13), .ref (q 14), .ref (q 15), .ref (q 16)])), (q 5, .inl (T 0, 2, .inl (S 5))), (q 6, .inl (T 0, 20, .inl (S 6))), (q 7, .inl (T 0, 160, .inl (S 7))), (q 8, .inl (T 0, 20, .inl (S 8))), (q 9, .inl (T 0, 20, .inl (S 9))), (q 10, .inl (T 0, 20, .inl (S 10))), (q 11, .inl (T 0, 6, .inl (S 11))), (q 12, .inl (T 0, 6, .inl (S 12))), (q 13, .inl (T 0, 6, .inl (S 13))), (q 14, .inl (T 0, 6, .inl (S 14))), (q 15, .inl (T 0, 6, .inl (S 15))), (q 16, .inl (T 0, 2, .inl (S 16)))] s.heap := hP
  have hD : va_D A [(w 0, .inr (7, [.ref (q 0), .ref (qz 0), .ref (h 0), .ref (t 0), .ref (gr 0), .ref (u 0), .ref (tr 0), .ref (oc 0), .int (Sw 0 8)])), (q 0, .inr (3, [.int (S 0 0), .int (S 0 1), .int (S 0 2), .int (S 0 3), .ref (q 5), .ref (q 6), .ref (q 7), .ref (q 8), .ref (q 9), .ref (q 10), .ref (q 11), .ref (q 12), .ref (q 13), .ref (q 14), .ref (q 15), .ref (q 16)])), (q 5, .inl (T 0, 2, .inl (S 5))), (q 6, .inl (T 0, 20, .inl (S 6))), (q 7, .inl (T 0, 160, .inl (S 7))), (q 8, .inl (T 0, 20, .inl (S 8))), (q 9, .inl (T 0, 20, .inl (S 9))), (q 10, .inl (T 0, 20, .inl (S 10))), (q 11, .inl (T 0, 6, .inl (S 11))), (q 12, .inl (T 0, 6, .inl (S 12))), (q 13, .inl (T 0, 6, .inl (S 13))), (q 14, .inl (T 0, 6, .inl (S 14))), (q 15, .inl (T 0, 6, .inl (S 15))), (q 16, .inl (T 0, 2, .inl (S 16)))] := hD
  skip
  refine w_h (fun H locs hHe hLe => ?_)
  have hP : va_P G vwCl [(w 0, .inr (7, [.ref (q 0), .ref (qz 0), .ref (h 0), .ref (t 0), .ref (gr 0), .ref (u 0), .ref (tr 0), .ref (oc 0), .int (Sw 0 8)])), (q 0, .inr (3, [.int (S 0 0), .int (S 0 1), .int (S 0 2), .int (S 0 3), .ref (q 5), .ref (q 6), .ref (q 7), .ref (q 8), .ref (q 9), .ref (q 10), .ref (q 11), .ref (q 12), .ref (q 13), .ref (q 14), .ref (q 15), .ref (q 16)])), (q 5, .inl (T 0, 2, .inl (S 5))), (q 6, .inl (T 0, 20, .inl (S 6))), (q 7, .inl (T 0, 160, .inl (S 7))), (q 8, .inl (T 0, 20, .inl (S 8))), (q 9, .inl (T 0, 20, .inl (S 9))), (q 10, .inl (T 0, 20, .inl (S 10))), (q 11, .inl (T 0, 6, .inl (S 11))), (q 12, .inl (T 0, 6, .inl (S 12))), (q 13, .inl (T 0, 6, .inl (S 13))), (q 14, .inl (T 0, 6, .inl (S 14))), (q 15, .inl (T 0, 6, .inl (S 15))), (q 16, .inl (T 0, 2, .inl (S 16)))] H := by rw [hHe]; exact hP
  have hS : va_S A s.heap H locs := by rw [hHe, hLe]; exact hS
  refine lv_iload_n hx hb dX7_whistle_0 rfl (lv_at hl 1 rfl) ?_
  refine k_roS (As := [.int (nI rr)]) (rest := []) (wc := []) (d := 0) (v := bI (pBt (nI rr) 6)) cx (c_X7_isRoom l G T A (nI rr) ) (va_cwS 1 hts gX7_whistle_X7_isRoom rfl rfl rfl (by decide +kernel) ⟨Nat.le_of_ble_eq_true rfl, Nat.le_of_ble_eq_true rfl⟩) (hP.sub (ws' := []) [] rfl) hK (hE.kept hS.2.1) rfl hl.1 rfl (Nat.le_of_ble_eq_true rfl) dX7_whistle_1 ⟨Nat.le_of_ble_eq_true rfl, Nat.le_of_ble_eq_true rfl⟩ ?_
  refine b_if_eq (b := pBt (nI rr) 6) (tgt := 14) hx hb dX7_whistle_4 (by decide) (fun c_1 => by exfalso; rw [pBt_T hr6 (by decide)] at c_1; cases c_1) (fun c_2 => ?_)
  refine lv_iload_n hx hb dX7_whistle_7 rfl (lv_at hl 2 rfl) ?_
  refine k_roS (As := [.int (nI mm)]) (rest := []) (wc := []) (d := 0) (v := bI (pBt (nI mm) 20)) cx (c_X7_isMessage l G T A (nI mm) ) (va_cwS 1 hts gX7_whistle_X7_isMessage rfl rfl rfl (by decide +kernel) ⟨Nat.le_of_ble_eq_true rfl, Nat.le_of_ble_eq_true rfl⟩) (hP.sub (ws' := []) [] rfl) hK (hE.kept hS.2.1) rfl hl.1 rfl (Nat.le_of_ble_eq_true rfl) dX7_whistle_8 ⟨Nat.le_of_ble_eq_true rfl, Nat.le_of_ble_eq_true rfl⟩ ?_
  refine b_if_ne (b := pBt (nI mm) 20) (tgt := 24) hx hb dX7_whistle_11 (by decide) (fun c_3 => ?_) (fun c_4 => by exfalso; rw [pBt_T hm20 (by decide)] at c_4; cases c_4)
  refine lv_aload_n hx hb dX7_whistle_24 rfl (lv_at hl 0 rfl) ?_
  refine va_get (D := G) (ci := 7) (v := .ref (q 0)) (C := RX7) (T := TX7) (N := 9) hx hb hts hinX7 hown hK hP 0 rfl rfl 0 (by decide) lk10 (fun _ h9 => h9) rfl dX7_whistle_25 ?_
  refine lv_iload_n hx hb dX7_whistle_28 rfl (lv_at hl 1 rfl) ?_
  refine lv_iload_n hx hb dX7_whistle_29 rfl (lv_at hl 2 rfl) ?_
  refine k_roV (As := [.int (nI rr), .int (nI mm)]) (rest := []) (wc := oX3 T q S) (d := 1) (v := pWhy S rr mm) cx (c_X3_reasonAgainst l G T A q S rr mm (by omega) (by omega)) (cwV 2 hts gX7_whistle_X3_reasonAgainst rfl rfl rfl (by decide +kernel) ⟨Nat.le_of_ble_eq_true rfl, Nat.le_of_ble_eq_true rfl⟩) (hP.sub (ws' := oX3 T q S) [1, 2, 3, 4, 5, 6, 7, 8, 9, 10, 11, 12, 13] rfl) hK (hE.kept hS.2.1) (va_recv hK hP (ci := 3) (q0 := 1) rfl rfl) rfl hl.1 rfl (Nat.le_of_ble_eq_true rfl) dX7_whistle_30 ⟨Nat.le_of_ble_eq_true rfl, Nat.le_of_ble_eq_true rfl⟩ ?_
  refine lv_if_eq (tgt := 46) hx hb dX7_whistle_33 (by decide) (fun c_5 => by exfalso; exact hwhy c_5) (fun c_6 => ?_)
  subst hQ
  have hP9 : va_P G vwCl (oX7 w q qz h t gr u tr oc Sw ++ oX3 T q S) H := hP
  have hD9 : va_D A (oX7 w q qz h t gr u tr oc Sw ++ oX3 T q S) := hD
  exact e_thr hx hb hst (own := RX7) (cls := "java/lang/IllegalStateException") "it cannot be whistled" ["java/lang/RuntimeException", "java/lang/Exception"] (ik := 89) (is := 170) (ic := 93) hown (by decide +kernel) (by decide +kernel) (hts (.classLink RX7 89 "java/lang/IllegalStateException") (by decide +kernel)) (hts (.initialized "java/lang/IllegalStateException") (by decide +kernel)) (hE.2.1 (RX7, 170, "it cannot be whistled") (by decide +kernel)) (xt_Z (is := 0) (ik := 0) (text := "") hC (by decide +kernel) (by decide +kernel) (fun w9 hw9 => hts w9 (List.mem_cons_of_mem _ (List.mem_append_right _ hw9)))) (by decide +kernel) hE hS (hl.1.trans hml.symm) dX7_whistle_36 dX7_whistle_39 dX7_whistle_40 dX7_whistle_42 dX7_whistle_45 htab ⟨by decide, Nat.le_of_ble_eq_true rfl, Nat.le_of_ble_eq_true rfl, Nat.le_of_ble_eq_true rfl⟩ hlocks ⟨rfl, rfl⟩ rfl hP9 hD9
set_option maxHeartbeats 4000000 in
set_option maxRecDepth 100000 in
theorem c_X7_ifWhistled (l : Launch) (G : va_G) (T : Nat → ClassId) (sz : Nat) (w : Nat → Nat) (q : Nat → Nat) (qz : Nat → Nat) (h : Nat → Nat) (t : Nat → Nat) (gr : Nat → Nat) (u : Nat → Nat) (tr : Nat → Nat) (oc : Nat → Nat) (Sw : Nat → Nat → Int32) (O : Nat → Nat → Int32) (S : Nat → Nat → Int32) (rr : Nat) (mm : Nat) (kk : Nat) (hr6 : rr < 6) (hm20 : mm < 20) (hk9 : kk < 4) : RWi l yX7_ifWhistled wsX7_ifWhistled 4 0 0 G T sz (oX7 w q qz h t gr u tr oc Sw ++ oX2 T oc O ++ oX3 T q S) [.ref (w 0), .int (nI rr), .int (nI mm), .int (nI kk)] (pIf S rr mm kk) (oX7 w q qz h t gr u tr oc Sw ++ oX2 T oc (pIfO O S rr mm) ++ oX3 T q S) := by
  refine Met.ofW (cc := cX7_ifWhistled) (maxL := 4) (ret := (some .int)) (by decide) rfl ?_
  intro p e s m args below meth c s₁ B hml hv
  obtain ⟨ha, hsz, hP, hK, hD0, hE0⟩ := hv
  have hx := B.exec
  have hb := B.bytes
  have hr := B.returns
  have hlocks := B.notSynchronized
  have hts := atoms_spec (ws := wsX7_ifWhistled) B.pre
  have hown : s.vm.findClass RX7 = some m.cls := findClass_of_methodNamed B.named
  have cx : CallFix p m c cX7_ifWhistled 4 s args wsX7_ifWhistled RX7 := ⟨hx, hb, hml, hown, hts⟩
  subst hsz
  have hD := hD0.self (sz := s.heap.size)
  generalize hAe : va_A (oX7 w q qz h t gr u tr oc Sw ++ oX2 T oc O ++ oX3 T q S) s.heap.size = A at hD hE0 ⊢
  have hE : gE A s s.heap := hE0
  have hA : ∀ q : Nat, s.heap.size ≤ q → A q := fun q h => by rw [← hAe]; exact Or.inr h
  have hS : va_S A s.heap s.heap [] := va_S.rf
  refine w_entry ha (Nat.le_of_ble_eq_true rfl) (fun ls hl => ?_)
  refine w_q (fun Q0 hQ => ?_)
  have lk10 := hts (.fieldLink RX7 10 "WhistleTunes" "school" "LWhistleTunes$School;") (by decide +kernel)
  have hinX7 : ∀ w ∈ wsX70, w ∈ wsX7_ifWhistled := by decide +kernel
  have lk57 := hts (.fieldLink RX7 57 "WhistleTunes" "outcome" "LWhistleTunes$Outcome;") (by decide +kernel)
  have lk293 := hts (.fieldLink RX7 293 "WhistleTunes$Outcome" "hearers" "I") (by decide +kernel)
  have hinX2 : ∀ w ∈ wsX20, w ∈ wsX7_ifWhistled := by decide +kernel
  have lk296 := hts (.fieldLink RX7 296 "WhistleTunes$Outcome" "understanders" "I") (by decide +kernel)
  have lk299 := hts (.fieldLink RX7 299 "WhistleTunes$Outcome" "catchers" "I") (by decide +kernel)
  have lk302 := hts (.fieldLink RX7 302 "WhistleTunes$Outcome" "raised" "I") (by decide +kernel)
  have hl : lv_has ls 4 [(0, .ref (w 0)), (1, .int (nI rr)), (2, .int (nI mm)), (3, .int (nI kk))] := hl
  have hP : va_P G vwCl [(w 0, .inr (7, [.ref (q 0), .ref (qz 0), .ref (h 0), .ref (t 0), .ref (gr 0), .ref (u 0), .ref (tr 0), .ref (oc 0), .int (Sw 0 8)])), (oc 0, .inr (2, [.int (O 0 0), .int (O 0 1), .int (O 0 2), .int (O 0 3), .int (O 0 4)])), (q 0, .inr (3, [.int (S 0 0), .int (S 0 1), .int (S 0 2), .int (S 0 3), .ref (q 5), .ref (q 6), .ref (q 7), .ref (q 8), .ref (q 9), .ref (q 10), .ref (q 11), .ref (q 12), .ref (q 13), .ref (q 14), .ref (q 15), .ref (q 16)])), (q 5, .inl (T 0, 2, .inl (S 5))), (q 6, .inl (T 0, 20, .inl (S 6))), (q 7, .inl (T 0, 160, .inl (S 7))), (q 8, .inl (T 0, 20, .inl (S 8))), (q 9, .inl (T 0, 20, .inl (S 9))), (q 10, .inl (T 0, 20, .inl (S 10))), (q 11, .inl (T 0, 6, .inl (S 11))), (q 12, .inl (T 0, 6, .inl (S 12))), (q 13, .inl (T 0, 6, .inl (S 13))), (q 14, .inl (T 0, 6, .inl (S 14))), (q 15, .inl (T 0, 6, .inl (S 15))), (q 16, .inl (T 0, 2, .inl (S 16)))] s.heap := hP
  have hD : va_D A [(w 0, .inr (7, [.ref (q 0), .ref (qz 0), .ref (h 0), .ref (t 0), .ref (gr 0), .ref (u 0), .ref (tr 0), .ref (oc 0), .int (Sw 0 8)])), (oc 0, .inr (2, [.int (O 0 0), .int (O 0 1), .int (O 0 2), .int (O 0 3), .int (O 0 4)])), (q 0, .inr (3, [.int (S 0 0), .int (S 0 1), .int (S 0 2), .int (S 0 3), .ref (q 5), .ref (q 6), .ref (q 7), .ref (q 8), .ref (q 9), .ref (q 10), .ref (q 11), .ref (q 12), .ref (q 13), .ref (q 14), .ref (q 15), .ref (q 16)])), (q 5, .inl (T 0, 2, .inl (S 5))), (q 6, .inl (T 0, 20, .inl (S 6))), (q 7, .inl (T 0, 160, .inl (S 7))), (q 8, .inl (T 0, 20, .inl (S 8))), (q 9, .inl (T 0, 20, .inl (S 9))), (q 10, .inl (T 0, 20, .inl (S 10))), (q 11, .inl (T 0, 6, .inl (S 11))), (q 12, .inl (T 0, 6, .inl (S 12))), (q 13, .inl (T 0, 6, .inl (S 13))), (q 14, .inl (T 0, 6, .inl (S 14))), (q 15, .inl (T 0, 6, .inl (S 15))), (q 16, .inl (T 0, 2, .inl (S 16)))] := hD
  skip
  refine w_h (fun H locs hHe hLe => ?_)
  have hP : va_P G vwCl [(w 0, .inr (7, [.ref (q 0), .ref (qz 0), .ref (h 0), .ref (t 0), .ref (gr 0), .ref (u 0), .ref (tr 0), .ref (oc 0), .int (Sw 0 8)])), (oc 0, .inr (2, [.int (O 0 0), .int (O 0 1), .int (O 0 2), .int (O 0 3), .int (O 0 4)])), (q 0, .inr (3, [.int (S 0 0), .int (S 0 1), .int (S 0 2), .int (S 0 3), .ref (q 5), .ref (q 6), .ref (q 7), .ref (q 8), .ref (q 9), .ref (q 10), .ref (q 11), .ref (q 12), .ref (q 13), .ref (q 14), .ref (q 15), .ref (q 16)])), (q 5, .inl (T 0, 2, .inl (S 5))), (q 6, .inl (T 0, 20, .inl (S 6))), (q 7, .inl (T 0, 160, .inl (S 7))), (q 8, .inl (T 0, 20, .inl (S 8))), (q 9, .inl (T 0, 20, .inl (S 9))), (q 10, .inl (T 0, 20, .inl (S 10))), (q 11, .inl (T 0, 6, .inl (S 11))), (q 12, .inl (T 0, 6, .inl (S 12))), (q 13, .inl (T 0, 6, .inl (S 13))), (q 14, .inl (T 0, 6, .inl (S 14))), (q 15, .inl (T 0, 6, .inl (S 15))), (q 16, .inl (T 0, 2, .inl (S 16)))] H := by rw [hHe]; exact hP
  have hS : va_S A s.heap H locs := by rw [hHe, hLe]; exact hS
  refine lv_iload_n hx hb dX7_ifWhistled_0 rfl (lv_at hl 1 rfl) ?_
  refine k_roS (As := [.int (nI rr)]) (rest := []) (wc := []) (d := 0) (v := bI (pBt (nI rr) 6)) cx (c_X7_isRoom l G T A (nI rr) ) (va_cwS 1 hts gX7_ifWhistled_X7_isRoom rfl rfl rfl (by decide +kernel) ⟨Nat.le_of_ble_eq_true rfl, Nat.le_of_ble_eq_true rfl⟩) (hP.sub (ws' := []) [] rfl) hK (hE.kept hS.2.1) rfl hl.1 rfl (Nat.le_of_ble_eq_true rfl) dX7_ifWhistled_1 ⟨Nat.le_of_ble_eq_true rfl, Nat.le_of_ble_eq_true rfl⟩ ?_
  refine b_if_eq (b := pBt (nI rr) 6) (tgt := 14) hx hb dX7_ifWhistled_4 (by decide) (fun c_1 => by exfalso; rw [pBt_T hr6 (by decide)] at c_1; cases c_1) (fun c_2 => ?_)
  refine lv_iload_n hx hb dX7_ifWhistled_7 rfl (lv_at hl 2 rfl) ?_
  refine k_roS (As := [.int (nI mm)]) (rest := []) (wc := []) (d := 0) (v := bI (pBt (nI mm) 20)) cx (c_X7_isMessage l G T A (nI mm) ) (va_cwS 1 hts gX7_ifWhistled_X7_isMessage rfl rfl rfl (by decide +kernel) ⟨Nat.le_of_ble_eq_true rfl, Nat.le_of_ble_eq_true rfl⟩) (hP.sub (ws' := []) [] rfl) hK (hE.kept hS.2.1) rfl hl.1 rfl (Nat.le_of_ble_eq_true rfl) dX7_ifWhistled_8 ⟨Nat.le_of_ble_eq_true rfl, Nat.le_of_ble_eq_true rfl⟩ ?_
  refine b_if_ne (b := pBt (nI mm) 20) (tgt := 24) hx hb dX7_ifWhistled_11 (by decide) (fun c_3 => ?_) (fun c_4 => by exfalso; rw [pBt_T hm20 (by decide)] at c_4; cases c_4)
  refine lv_iload_n hx hb dX7_ifWhistled_24 rfl (lv_at hl 3 rfl) ?_
  refine n_if_lt (a := kk) hx hb (by omega) dX7_ifWhistled_25 33 (by decide) ?_
  refine lv_iload_n hx hb dX7_ifWhistled_28 rfl (lv_at hl 3 rfl) ?_
  refine n_iconst hx hb 4 dX7_ifWhistled_29 (by decide) ?_
  refine n_icmp_lt (a := kk) (b := 4) (tgt := 44) hx hb (by omega) (by decide) dX7_ifWhistled_30 (by decide) (fun c_5 => ?_) (fun c_6 => by exfalso; omega)
  refine lv_aload_n hx hb dX7_ifWhistled_44 rfl (lv_at hl 0 rfl) ?_
  refine va_get (D := G) (ci := 7) (v := .ref (q 0)) (C := RX7) (T := TX7) (N := 9) hx hb hts hinX7 hown hK hP 0 rfl rfl 0 (by decide) lk10 (fun _ h9 => h9) rfl dX7_ifWhistled_45 ?_
  refine lv_iload_n hx hb dX7_ifWhistled_48 rfl (lv_at hl 1 rfl) ?_
  refine lv_iload_n hx hb dX7_ifWhistled_49 rfl (lv_at hl 2 rfl) ?_
  refine k_roV (As := [.int (nI rr), .int (nI mm)]) (rest := []) (wc := oX3 T q S) (d := 1) (v := pWhy S rr mm) cx (c_X3_reasonAgainst l G T A q S rr mm (by omega) (by omega)) (cwV 2 hts gX7_ifWhistled_X3_reasonAgainst rfl rfl rfl (by decide +kernel) ⟨Nat.le_of_ble_eq_true rfl, Nat.le_of_ble_eq_true rfl⟩) (hP.sub (ws' := oX3 T q S) [2, 3, 4, 5, 6, 7, 8, 9, 10, 11, 12, 13, 14] rfl) hK (hE.kept hS.2.1) (va_recv hK hP (ci := 3) (q0 := 2) rfl rfl) rfl hl.1 rfl (Nat.le_of_ble_eq_true rfl) dX7_ifWhistled_50 ⟨Nat.le_of_ble_eq_true rfl, Nat.le_of_ble_eq_true rfl⟩ ?_
  refine lv_if_eq (tgt := 58) hx hb dX7_ifWhistled_53 (by decide) (fun c_7 => ?_) (fun c_8 => ?_)
  · skip
    refine lv_aload_n hx hb dX7_ifWhistled_58 rfl (lv_at hl 0 rfl) ?_
    refine va_get (D := G) (ci := 7) (v := .ref (oc 0)) (C := RX7) (T := TX7) (N := 9) hx hb hts hinX7 hown hK hP 0 rfl rfl 7 (by decide) lk57 (fun _ h9 => h9) rfl dX7_ifWhistled_59 ?_
    refine lv_aload_n hx hb dX7_ifWhistled_62 rfl (lv_at hl 0 rfl) ?_
    refine va_get (D := G) (ci := 7) (v := .ref (q 0)) (C := RX7) (T := TX7) (N := 9) hx hb hts hinX7 hown hK hP 0 rfl rfl 0 (by decide) lk10 (fun _ h9 => h9) rfl dX7_ifWhistled_63 ?_
    refine lv_iload_n hx hb dX7_ifWhistled_66 rfl (lv_at hl 1 rfl) ?_
    refine lv_iload_n hx hb dX7_ifWhistled_67 rfl (lv_at hl 2 rfl) ?_
    refine k_rvV (As := [.ref (q 0), .int (nI rr), .int (nI mm)]) (rest := []) (wc := oX2 T oc O ++ oX3 T q S) (wr := oX7 w q qz h t gr u tr oc Sw) (w1 := oX2 T oc (sc (sc (sc (sc (sc O 0 (pFHo S rr 3)) 1 (pHe S rr)) 2 (pUn S rr)) 3 (pCa S rr mm)) 4 (pRa S rr mm)) ++ oX3 T q S) (d := 2) (mc := 0) (ms := 0) (isC := [1, 2, 3, 4, 5, 6, 7, 8, 9, 10, 11, 12, 13, 14]) (isR := [0]) cx (c_X2_foresee l G T H.size oc q O S rr mm (by omega) (by omega)) (cwV 3 hts gX7_ifWhistled_X2_foresee rfl rfl rfl (by decide +kernel) ⟨Nat.le_of_ble_eq_true rfl, Nat.le_of_ble_eq_true rfl⟩) ⟨hP, hD, hS, hA, hE, hK, rfl, rfl, rfl, rfl, by decide⟩ (va_recv hK hP (ci := 2) (q0 := 1) rfl rfl) rfl hl.1 rfl (Nat.le_of_ble_eq_true rfl) dX7_ifWhistled_68 ⟨Nat.le_of_ble_eq_true rfl, Nat.le_of_ble_eq_true rfl⟩ (fun H locs hP hD hS hz => ?_)
    have hP : va_P G vwCl [(w 0, .inr (7, [.ref (q 0), .ref (qz 0), .ref (h 0), .ref (t 0), .ref (gr 0), .ref (u 0), .ref (tr 0), .ref (oc 0), .int (Sw 0 8)])), (oc 0, .inr (2, [.int (pFHo S rr 3), .int (pHe S rr), .int (pUn S rr), .int (pCa S rr mm), .int (pRa S rr mm)])), (q 0, .inr (3, [.int (S 0 0), .int (S 0 1), .int (S 0 2), .int (S 0 3), .ref (q 5), .ref (q 6), .ref (q 7), .ref (q 8), .ref (q 9), .ref (q 10), .ref (q 11), .ref (q 12), .ref (q 13), .ref (q 14), .ref (q 15), .ref (q 16)])), (q 5, .inl (T 0, 2, .inl (S 5))), (q 6, .inl (T 0, 20, .inl (S 6))), (q 7, .inl (T 0, 160, .inl (S 7))), (q 8, .inl (T 0, 20, .inl (S 8))), (q 9, .inl (T 0, 20, .inl (S 9))), (q 10, .inl (T 0, 20, .inl (S 10))), (q 11, .inl (T 0, 6, .inl (S 11))), (q 12, .inl (T 0, 6, .inl (S 12))), (q 13, .inl (T 0, 6, .inl (S 13))), (q 14, .inl (T 0, 6, .inl (S 14))), (q 15, .inl (T 0, 6, .inl (S 15))), (q 16, .inl (T 0, 2, .inl (S 16)))] H := hP
    have hD : va_D A [(w 0, .inr (7, [.ref (q 0), .ref (qz 0), .ref (h 0), .ref (t 0), .ref (gr 0), .ref (u 0), .ref (tr 0), .ref (oc 0), .int (Sw 0 8)])), (oc 0, .inr (2, [.int (pFHo S rr 3), .int (pHe S rr), .int (pUn S rr), .int (pCa S rr mm), .int (pRa S rr mm)])), (q 0, .inr (3, [.int (S 0 0), .int (S 0 1), .int (S 0 2), .int (S 0 3), .ref (q 5), .ref (q 6), .ref (q 7), .ref (q 8), .ref (q 9), .ref (q 10), .ref (q 11), .ref (q 12), .ref (q 13), .ref (q 14), .ref (q 15), .ref (q 16)])), (q 5, .inl (T 0, 2, .inl (S 5))), (q 6, .inl (T 0, 20, .inl (S 6))), (q 7, .inl (T 0, 160, .inl (S 7))), (q 8, .inl (T 0, 20, .inl (S 8))), (q 9, .inl (T 0, 20, .inl (S 9))), (q 10, .inl (T 0, 20, .inl (S 10))), (q 11, .inl (T 0, 6, .inl (S 11))), (q 12, .inl (T 0, 6, .inl (S 12))), (q 13, .inl (T 0, 6, .inl (S 13))), (q 14, .inl (T 0, 6, .inl (S 14))), (q 15, .inl (T 0, 6, .inl (S 15))), (q 16, .inl (T 0, 2, .inl (S 16)))] := hD
    refine lv_iload_n hx hb dX7_ifWhistled_71 rfl (lv_at hl 3 rfl) ?_
    rcases (show kk = 0 ∨ kk = 1 ∨ kk = 2 ∨ kk = 3 by omega) with rfl | rfl | rfl | rfl
    · skip
      refine n_tab (a := 0) (off := 28) (tgt := 100) hx hb (by decide) dX7_ifWhistled_72 (by decide) (by decide) rfl (by decide) ?_
      refine lv_aload_n hx hb dX7_ifWhistled_100 rfl (lv_at hl 0 rfl) ?_
      refine va_get (D := G) (ci := 7) (v := .ref (oc 0)) (C := RX7) (T := TX7) (N := 9) hx hb hts hinX7 hown hK hP 0 rfl rfl 7 (by decide) lk57 (fun _ h9 => h9) rfl dX7_ifWhistled_101 ?_
      refine va_get (D := G) (ci := 2) (v := .int (pHe S rr)) (C := RX2) (T := TX2) (N := 5) hx hb hts hinX2 hown hK hP 1 rfl rfl 1 (by decide) lk293 (fun _ h9 => h9) rfl dX7_ifWhistled_104 ?_
      subst hQ
      have hP9 : va_P G vwCl (oX7 w q qz h t gr u tr oc Sw ++ oX2 T oc (pIfO O S rr mm) ++ oX3 T q S) H := (by first | (rw [pIfO_1 (by assumption)]; exact hP) | (rw [pIfO_2 (by assumption)]; exact hP))
      have hD9 : va_D A (oX7 w q qz h t gr u tr oc Sw ++ oX2 T oc (pIfO O S rr mm) ++ oX3 T q S) := (by first | (rw [pIfO_1 (by assumption)]; exact hD) | (rw [pIfO_2 (by assumption)]; exact hD))
      exact e_rwi hx hb hr hlocks hS (by first | (rw [pIf_1 _ (by assumption)] <;> rfl) | (rw [pIf_2 _ (by assumption)])) hP9 hD9 dX7_ifWhistled_107
    · skip
      refine n_tab (a := 1) (off := 36) (tgt := 108) hx hb (by decide) dX7_ifWhistled_72 (by decide) (by decide) rfl (by decide) ?_
      refine lv_aload_n hx hb dX7_ifWhistled_108 rfl (lv_at hl 0 rfl) ?_
      refine va_get (D := G) (ci := 7) (v := .ref (oc 0)) (C := RX7) (T := TX7) (N := 9) hx hb hts hinX7 hown hK hP 0 rfl rfl 7 (by decide) lk57 (fun _ h9 => h9) rfl dX7_ifWhistled_109 ?_
      refine va_get (D := G) (ci := 2) (v := .int (pUn S rr)) (C := RX2) (T := TX2) (N := 5) hx hb hts hinX2 hown hK hP 1 rfl rfl 2 (by decide) lk296 (fun _ h9 => h9) rfl dX7_ifWhistled_112 ?_
      subst hQ
      have hP9 : va_P G vwCl (oX7 w q qz h t gr u tr oc Sw ++ oX2 T oc (pIfO O S rr mm) ++ oX3 T q S) H := (by first | (rw [pIfO_1 (by assumption)]; exact hP) | (rw [pIfO_2 (by assumption)]; exact hP))
      have hD9 : va_D A (oX7 w q qz h t gr u tr oc Sw ++ oX2 T oc (pIfO O S rr mm) ++ oX3 T q S) := (by first | (rw [pIfO_1 (by assumption)]; exact hD) | (rw [pIfO_2 (by assumption)]; exact hD))
      exact e_rwi hx hb hr hlocks hS (by first | (rw [pIf_1 _ (by assumption)] <;> rfl) | (rw [pIf_2 _ (by assumption)])) hP9 hD9 dX7_ifWhistled_115
    · skip
      refine n_tab (a := 2) (off := 44) (tgt := 116) hx hb (by decide) dX7_ifWhistled_72 (by decide) (by decide) rfl (by decide) ?_
      refine lv_aload_n hx hb dX7_ifWhistled_116 rfl (lv_at hl 0 rfl) ?_
      refine va_get (D := G) (ci := 7) (v := .ref (oc 0)) (C := RX7) (T := TX7) (N := 9) hx hb hts hinX7 hown hK hP 0 rfl rfl 7 (by decide) lk57 (fun _ h9 => h9) rfl dX7_ifWhistled_117 ?_
      refine va_get (D := G) (ci := 2) (v := .int (pCa S rr mm)) (C := RX2) (T := TX2) (N := 5) hx hb hts hinX2 hown hK hP 1 rfl rfl 3 (by decide) lk299 (fun _ h9 => h9) rfl dX7_ifWhistled_120 ?_
      subst hQ
      have hP9 : va_P G vwCl (oX7 w q qz h t gr u tr oc Sw ++ oX2 T oc (pIfO O S rr mm) ++ oX3 T q S) H := (by first | (rw [pIfO_1 (by assumption)]; exact hP) | (rw [pIfO_2 (by assumption)]; exact hP))
      have hD9 : va_D A (oX7 w q qz h t gr u tr oc Sw ++ oX2 T oc (pIfO O S rr mm) ++ oX3 T q S) := (by first | (rw [pIfO_1 (by assumption)]; exact hD) | (rw [pIfO_2 (by assumption)]; exact hD))
      exact e_rwi hx hb hr hlocks hS (by first | (rw [pIf_1 _ (by assumption)] <;> rfl) | (rw [pIf_2 _ (by assumption)])) hP9 hD9 dX7_ifWhistled_123
    · skip
      refine n_tabO (tgt := 124) hx hb dX7_ifWhistled_72 0 3 (by decide) rfl rfl (by decide) ?_
      refine lv_aload_n hx hb dX7_ifWhistled_124 rfl (lv_at hl 0 rfl) ?_
      refine va_get (D := G) (ci := 7) (v := .ref (oc 0)) (C := RX7) (T := TX7) (N := 9) hx hb hts hinX7 hown hK hP 0 rfl rfl 7 (by decide) lk57 (fun _ h9 => h9) rfl dX7_ifWhistled_125 ?_
      refine va_get (D := G) (ci := 2) (v := .int (pRa S rr mm)) (C := RX2) (T := TX2) (N := 5) hx hb hts hinX2 hown hK hP 1 rfl rfl 4 (by decide) lk302 (fun _ h9 => h9) rfl dX7_ifWhistled_128 ?_
      subst hQ
      have hP9 : va_P G vwCl (oX7 w q qz h t gr u tr oc Sw ++ oX2 T oc (pIfO O S rr mm) ++ oX3 T q S) H := (by first | (rw [pIfO_1 (by assumption)]; exact hP) | (rw [pIfO_2 (by assumption)]; exact hP))
      have hD9 : va_D A (oX7 w q qz h t gr u tr oc Sw ++ oX2 T oc (pIfO O S rr mm) ++ oX3 T q S) := (by first | (rw [pIfO_1 (by assumption)]; exact hD) | (rw [pIfO_2 (by assumption)]; exact hD))
      exact e_rwi hx hb hr hlocks hS (by first | (rw [pIf_1 _ (by assumption)] <;> rfl) | (rw [pIf_2 _ (by assumption)])) hP9 hD9 dX7_ifWhistled_131
  · skip
    refine lv_iconst (v := -1) hx hb dX7_ifWhistled_56 (by decide) ?_
    subst hQ
    have hP9 : va_P G vwCl (oX7 w q qz h t gr u tr oc Sw ++ oX2 T oc (pIfO O S rr mm) ++ oX3 T q S) H := (by first | (rw [pIfO_1 (by assumption)]; exact hP) | (rw [pIfO_2 (by assumption)]; exact hP))
    have hD9 : va_D A (oX7 w q qz h t gr u tr oc Sw ++ oX2 T oc (pIfO O S rr mm) ++ oX3 T q S) := (by first | (rw [pIfO_1 (by assumption)]; exact hD) | (rw [pIfO_2 (by assumption)]; exact hD))
    exact e_rwi hx hb hr hlocks hS (by first | (rw [pIf_1 _ (by assumption)] <;> rfl) | (rw [pIf_2 _ (by assumption)])) hP9 hD9 dX7_ifWhistled_57
set_option maxHeartbeats 4000000 in
set_option maxRecDepth 100000 in
theorem c_X7_ifWhistled_t (l : Launch) (hst : l.stackTraces = false) (G : va_G) (T : Nat → ClassId) (sz : Nat) (w : Nat → Nat) (q : Nat → Nat) (qz : Nat → Nat) (h : Nat → Nat) (t : Nat → Nat) (gr : Nat → Nat) (u : Nat → Nat) (tr : Nat → Nat) (oc : Nat → Nat) (Sw : Nat → Nat → Int32) (x : Int32) (y : Int32) (z : Int32) (hbx : pBt x 6 = false) : RX l yX7_ifWhistled wsX7_ifWhistled 7 G T sz (oX7 w q qz h t gr u tr oc Sw) [.ref (w 0), .int x, .int y, .int z] (.inr "java/lang/IndexOutOfBoundsException") (oX7 w q qz h t gr u tr oc Sw) := by
  refine vx_ofW (cc := cX7_ifWhistled) (maxL := 4) (ret := (some .int)) (by decide) rfl ?_
  intro p e s m args below meth c s₁ B hml htab hv
  obtain ⟨ha, ⟨hsz, hP, hK, hD0, hE0⟩, hC⟩ := hv
  have hx := B.exec
  have hb := B.bytes
  have hr := B.returns
  have hlocks := B.notSynchronized
  have hts := atoms_spec (ws := wsX7_ifWhistled) B.pre
  have hown : s.vm.findClass RX7 = some m.cls := findClass_of_methodNamed B.named
  have cx : CallFix p m c cX7_ifWhistled 4 s args wsX7_ifWhistled RX7 := ⟨hx, hb, hml, hown, hts⟩
  subst hsz
  have hD := hD0.self (sz := s.heap.size)
  generalize hAe : va_A (oX7 w q qz h t gr u tr oc Sw) s.heap.size = A at hD hE0 ⊢
  have hE : gE A s s.heap := hE0
  have hA : ∀ q : Nat, s.heap.size ≤ q → A q := fun q h => by rw [← hAe]; exact Or.inr h
  have hS : va_S A s.heap s.heap [] := va_S.rf
  refine w_entry ha (Nat.le_of_ble_eq_true rfl) (fun ls hl => ?_)
  refine w_q (fun Q0 hQ => ?_)
  have hl : lv_has ls 4 [(0, .ref (w 0)), (1, .int x), (2, .int y), (3, .int z)] := hl
  have hP : va_P G vwCl [(w 0, .inr (7, [.ref (q 0), .ref (qz 0), .ref (h 0), .ref (t 0), .ref (gr 0), .ref (u 0), .ref (tr 0), .ref (oc 0), .int (Sw 0 8)]))] s.heap := hP
  have hD : va_D A [(w 0, .inr (7, [.ref (q 0), .ref (qz 0), .ref (h 0), .ref (t 0), .ref (gr 0), .ref (u 0), .ref (tr 0), .ref (oc 0), .int (Sw 0 8)]))] := hD
  skip
  refine w_h (fun H locs hHe hLe => ?_)
  have hP : va_P G vwCl [(w 0, .inr (7, [.ref (q 0), .ref (qz 0), .ref (h 0), .ref (t 0), .ref (gr 0), .ref (u 0), .ref (tr 0), .ref (oc 0), .int (Sw 0 8)]))] H := by rw [hHe]; exact hP
  have hS : va_S A s.heap H locs := by rw [hHe, hLe]; exact hS
  refine lv_iload_n hx hb dX7_ifWhistled_0 rfl (lv_at hl 1 rfl) ?_
  refine k_roS (As := [.int x]) (rest := []) (wc := []) (d := 0) (v := bI (pBt x 6)) cx (c_X7_isRoom l G T A x ) (va_cwS 1 hts gX7_ifWhistled_X7_isRoom rfl rfl rfl (by decide +kernel) ⟨Nat.le_of_ble_eq_true rfl, Nat.le_of_ble_eq_true rfl⟩) (hP.sub (ws' := []) [] rfl) hK (hE.kept hS.2.1) rfl hl.1 rfl (Nat.le_of_ble_eq_true rfl) dX7_ifWhistled_1 ⟨Nat.le_of_ble_eq_true rfl, Nat.le_of_ble_eq_true rfl⟩ ?_
  refine b_if_eq (b := pBt x 6) (tgt := 14) hx hb dX7_ifWhistled_4 (by decide) (fun c_1 => ?_) (fun c_2 => by exfalso; rw [hbx] at c_2; cases c_2)
  subst hQ
  have hP9 : va_P G vwCl (oX7 w q qz h t gr u tr oc Sw) H := hP
  have hD9 : va_D A (oX7 w q qz h t gr u tr oc Sw) := hD
  exact e_thr hx hb hst (own := RX7) (cls := "java/lang/IndexOutOfBoundsException") "no such room or message" ["java/lang/RuntimeException", "java/lang/Exception"] (ik := 69) (is := 164) (ic := 73) hown (by decide +kernel) (by decide +kernel) (hts (.classLink RX7 69 "java/lang/IndexOutOfBoundsException") (by decide +kernel)) (hts (.initialized "java/lang/IndexOutOfBoundsException") (by decide +kernel)) (hE.2.1 (RX7, 164, "no such room or message") (by decide +kernel)) (xt_Z (is := 0) (ik := 0) (text := "") hC (by decide +kernel) (by decide +kernel) (fun w9 hw9 => hts w9 (List.mem_cons_of_mem _ (List.mem_append_left _ (List.mem_append_right _ hw9))))) (by decide +kernel) hE hS (hl.1.trans hml.symm) dX7_ifWhistled_14 dX7_ifWhistled_17 dX7_ifWhistled_18 dX7_ifWhistled_20 dX7_ifWhistled_23 htab ⟨by decide, Nat.le_of_ble_eq_true rfl, Nat.le_of_ble_eq_true rfl, Nat.le_of_ble_eq_true rfl⟩ hlocks ⟨rfl, rfl⟩ rfl hP9 hD9
set_option maxHeartbeats 4000000 in
set_option maxRecDepth 100000 in
theorem c_X7_ifWhistled_t2 (l : Launch) (hst : l.stackTraces = false) (G : va_G) (T : Nat → ClassId) (sz : Nat) (w : Nat → Nat) (q : Nat → Nat) (qz : Nat → Nat) (h : Nat → Nat) (t : Nat → Nat) (gr : Nat → Nat) (u : Nat → Nat) (tr : Nat → Nat) (oc : Nat → Nat) (Sw : Nat → Nat → Int32) (rr : Nat) (y : Int32) (z : Int32) (hr6 : rr < 6) (hby : pBt y 20 = false) : RX l yX7_ifWhistled wsX7_ifWhistled 7 G T sz (oX7 w q qz h t gr u tr oc Sw) [.ref (w 0), .int (nI rr), .int y, .int z] (.inr "java/lang/IndexOutOfBoundsException") (oX7 w q qz h t gr u tr oc Sw) := by
  refine vx_ofW (cc := cX7_ifWhistled) (maxL := 4) (ret := (some .int)) (by decide) rfl ?_
  intro p e s m args below meth c s₁ B hml htab hv
  obtain ⟨ha, ⟨hsz, hP, hK, hD0, hE0⟩, hC⟩ := hv
  have hx := B.exec
  have hb := B.bytes
  have hr := B.returns
  have hlocks := B.notSynchronized
  have hts := atoms_spec (ws := wsX7_ifWhistled) B.pre
  have hown : s.vm.findClass RX7 = some m.cls := findClass_of_methodNamed B.named
  have cx : CallFix p m c cX7_ifWhistled 4 s args wsX7_ifWhistled RX7 := ⟨hx, hb, hml, hown, hts⟩
  subst hsz
  have hD := hD0.self (sz := s.heap.size)
  generalize hAe : va_A (oX7 w q qz h t gr u tr oc Sw) s.heap.size = A at hD hE0 ⊢
  have hE : gE A s s.heap := hE0
  have hA : ∀ q : Nat, s.heap.size ≤ q → A q := fun q h => by rw [← hAe]; exact Or.inr h
  have hS : va_S A s.heap s.heap [] := va_S.rf
  refine w_entry ha (Nat.le_of_ble_eq_true rfl) (fun ls hl => ?_)
  refine w_q (fun Q0 hQ => ?_)
  have hl : lv_has ls 4 [(0, .ref (w 0)), (1, .int (nI rr)), (2, .int y), (3, .int z)] := hl
  have hP : va_P G vwCl [(w 0, .inr (7, [.ref (q 0), .ref (qz 0), .ref (h 0), .ref (t 0), .ref (gr 0), .ref (u 0), .ref (tr 0), .ref (oc 0), .int (Sw 0 8)]))] s.heap := hP
  have hD : va_D A [(w 0, .inr (7, [.ref (q 0), .ref (qz 0), .ref (h 0), .ref (t 0), .ref (gr 0), .ref (u 0), .ref (tr 0), .ref (oc 0), .int (Sw 0 8)]))] := hD
  skip
  refine w_h (fun H locs hHe hLe => ?_)
  have hP : va_P G vwCl [(w 0, .inr (7, [.ref (q 0), .ref (qz 0), .ref (h 0), .ref (t 0), .ref (gr 0), .ref (u 0), .ref (tr 0), .ref (oc 0), .int (Sw 0 8)]))] H := by rw [hHe]; exact hP
  have hS : va_S A s.heap H locs := by rw [hHe, hLe]; exact hS
  refine lv_iload_n hx hb dX7_ifWhistled_0 rfl (lv_at hl 1 rfl) ?_
  refine k_roS (As := [.int (nI rr)]) (rest := []) (wc := []) (d := 0) (v := bI (pBt (nI rr) 6)) cx (c_X7_isRoom l G T A (nI rr) ) (va_cwS 1 hts gX7_ifWhistled_X7_isRoom rfl rfl rfl (by decide +kernel) ⟨Nat.le_of_ble_eq_true rfl, Nat.le_of_ble_eq_true rfl⟩) (hP.sub (ws' := []) [] rfl) hK (hE.kept hS.2.1) rfl hl.1 rfl (Nat.le_of_ble_eq_true rfl) dX7_ifWhistled_1 ⟨Nat.le_of_ble_eq_true rfl, Nat.le_of_ble_eq_true rfl⟩ ?_
  refine b_if_eq (b := pBt (nI rr) 6) (tgt := 14) hx hb dX7_ifWhistled_4 (by decide) (fun c_1 => by exfalso; rw [pBt_T hr6 (by decide)] at c_1; cases c_1) (fun c_2 => ?_)
  refine lv_iload_n hx hb dX7_ifWhistled_7 rfl (lv_at hl 2 rfl) ?_
  refine k_roS (As := [.int y]) (rest := []) (wc := []) (d := 0) (v := bI (pBt y 20)) cx (c_X7_isMessage l G T A y ) (va_cwS 1 hts gX7_ifWhistled_X7_isMessage rfl rfl rfl (by decide +kernel) ⟨Nat.le_of_ble_eq_true rfl, Nat.le_of_ble_eq_true rfl⟩) (hP.sub (ws' := []) [] rfl) hK (hE.kept hS.2.1) rfl hl.1 rfl (Nat.le_of_ble_eq_true rfl) dX7_ifWhistled_8 ⟨Nat.le_of_ble_eq_true rfl, Nat.le_of_ble_eq_true rfl⟩ ?_
  refine b_if_ne (b := pBt y 20) (tgt := 24) hx hb dX7_ifWhistled_11 (by decide) (fun c_3 => by exfalso; rw [hby] at c_3; cases c_3) (fun c_4 => ?_)
  subst hQ
  have hP9 : va_P G vwCl (oX7 w q qz h t gr u tr oc Sw) H := hP
  have hD9 : va_D A (oX7 w q qz h t gr u tr oc Sw) := hD
  exact e_thr hx hb hst (own := RX7) (cls := "java/lang/IndexOutOfBoundsException") "no such room or message" ["java/lang/RuntimeException", "java/lang/Exception"] (ik := 69) (is := 164) (ic := 73) hown (by decide +kernel) (by decide +kernel) (hts (.classLink RX7 69 "java/lang/IndexOutOfBoundsException") (by decide +kernel)) (hts (.initialized "java/lang/IndexOutOfBoundsException") (by decide +kernel)) (hE.2.1 (RX7, 164, "no such room or message") (by decide +kernel)) (xt_Z (is := 0) (ik := 0) (text := "") hC (by decide +kernel) (by decide +kernel) (fun w9 hw9 => hts w9 (List.mem_cons_of_mem _ (List.mem_append_left _ (List.mem_append_right _ hw9))))) (by decide +kernel) hE hS (hl.1.trans hml.symm) dX7_ifWhistled_14 dX7_ifWhistled_17 dX7_ifWhistled_18 dX7_ifWhistled_20 dX7_ifWhistled_23 htab ⟨by decide, Nat.le_of_ble_eq_true rfl, Nat.le_of_ble_eq_true rfl, Nat.le_of_ble_eq_true rfl⟩ hlocks ⟨rfl, rfl⟩ rfl hP9 hD9
set_option maxHeartbeats 4000000 in
set_option maxRecDepth 100000 in
theorem c_X7_ifWhistled_t3 (l : Launch) (hst : l.stackTraces = false) (G : va_G) (T : Nat → ClassId) (sz : Nat) (w : Nat → Nat) (q : Nat → Nat) (qz : Nat → Nat) (h : Nat → Nat) (t : Nat → Nat) (gr : Nat → Nat) (u : Nat → Nat) (tr : Nat → Nat) (oc : Nat → Nat) (Sw : Nat → Nat → Int32) (rr : Nat) (mm : Nat) (z : Int32) (hr6 : rr < 6) (hm20 : mm < 20) (hz : pBt z 4 = false) : RX l yX7_ifWhistled wsX7_ifWhistled 7 G T sz (oX7 w q qz h t gr u tr oc Sw) [.ref (w 0), .int (nI rr), .int (nI mm), .int z] (.inr "java/lang/IllegalArgumentException") (oX7 w q qz h t gr u tr oc Sw) := by
  refine vx_ofW (cc := cX7_ifWhistled) (maxL := 4) (ret := (some .int)) (by decide) rfl ?_
  intro p e s m args below meth c s₁ B hml htab hv
  obtain ⟨ha, ⟨hsz, hP, hK, hD0, hE0⟩, hC⟩ := hv
  have hx := B.exec
  have hb := B.bytes
  have hr := B.returns
  have hlocks := B.notSynchronized
  have hts := atoms_spec (ws := wsX7_ifWhistled) B.pre
  have hown : s.vm.findClass RX7 = some m.cls := findClass_of_methodNamed B.named
  have cx : CallFix p m c cX7_ifWhistled 4 s args wsX7_ifWhistled RX7 := ⟨hx, hb, hml, hown, hts⟩
  subst hsz
  have hD := hD0.self (sz := s.heap.size)
  generalize hAe : va_A (oX7 w q qz h t gr u tr oc Sw) s.heap.size = A at hD hE0 ⊢
  have hE : gE A s s.heap := hE0
  have hA : ∀ q : Nat, s.heap.size ≤ q → A q := fun q h => by rw [← hAe]; exact Or.inr h
  have hS : va_S A s.heap s.heap [] := va_S.rf
  refine w_entry ha (Nat.le_of_ble_eq_true rfl) (fun ls hl => ?_)
  refine w_q (fun Q0 hQ => ?_)
  have hl : lv_has ls 4 [(0, .ref (w 0)), (1, .int (nI rr)), (2, .int (nI mm)), (3, .int z)] := hl
  have hP : va_P G vwCl [(w 0, .inr (7, [.ref (q 0), .ref (qz 0), .ref (h 0), .ref (t 0), .ref (gr 0), .ref (u 0), .ref (tr 0), .ref (oc 0), .int (Sw 0 8)]))] s.heap := hP
  have hD : va_D A [(w 0, .inr (7, [.ref (q 0), .ref (qz 0), .ref (h 0), .ref (t 0), .ref (gr 0), .ref (u 0), .ref (tr 0), .ref (oc 0), .int (Sw 0 8)]))] := hD
  skip
  refine w_h (fun H locs hHe hLe => ?_)
  have hP : va_P G vwCl [(w 0, .inr (7, [.ref (q 0), .ref (qz 0), .ref (h 0), .ref (t 0), .ref (gr 0), .ref (u 0), .ref (tr 0), .ref (oc 0), .int (Sw 0 8)]))] H := by rw [hHe]; exact hP
  have hS : va_S A s.heap H locs := by rw [hHe, hLe]; exact hS
  refine lv_iload_n hx hb dX7_ifWhistled_0 rfl (lv_at hl 1 rfl) ?_
  refine k_roS (As := [.int (nI rr)]) (rest := []) (wc := []) (d := 0) (v := bI (pBt (nI rr) 6)) cx (c_X7_isRoom l G T A (nI rr) ) (va_cwS 1 hts gX7_ifWhistled_X7_isRoom rfl rfl rfl (by decide +kernel) ⟨Nat.le_of_ble_eq_true rfl, Nat.le_of_ble_eq_true rfl⟩) (hP.sub (ws' := []) [] rfl) hK (hE.kept hS.2.1) rfl hl.1 rfl (Nat.le_of_ble_eq_true rfl) dX7_ifWhistled_1 ⟨Nat.le_of_ble_eq_true rfl, Nat.le_of_ble_eq_true rfl⟩ ?_
  refine b_if_eq (b := pBt (nI rr) 6) (tgt := 14) hx hb dX7_ifWhistled_4 (by decide) (fun c_1 => by exfalso; rw [pBt_T hr6 (by decide)] at c_1; cases c_1) (fun c_2 => ?_)
  refine lv_iload_n hx hb dX7_ifWhistled_7 rfl (lv_at hl 2 rfl) ?_
  refine k_roS (As := [.int (nI mm)]) (rest := []) (wc := []) (d := 0) (v := bI (pBt (nI mm) 20)) cx (c_X7_isMessage l G T A (nI mm) ) (va_cwS 1 hts gX7_ifWhistled_X7_isMessage rfl rfl rfl (by decide +kernel) ⟨Nat.le_of_ble_eq_true rfl, Nat.le_of_ble_eq_true rfl⟩) (hP.sub (ws' := []) [] rfl) hK (hE.kept hS.2.1) rfl hl.1 rfl (Nat.le_of_ble_eq_true rfl) dX7_ifWhistled_8 ⟨Nat.le_of_ble_eq_true rfl, Nat.le_of_ble_eq_true rfl⟩ ?_
  refine b_if_ne (b := pBt (nI mm) 20) (tgt := 24) hx hb dX7_ifWhistled_11 (by decide) (fun c_3 => ?_) (fun c_4 => by exfalso; rw [pBt_T hm20 (by decide)] at c_4; cases c_4)
  refine lv_iload_n hx hb dX7_ifWhistled_24 rfl (lv_at hl 3 rfl) ?_
  refine lv_if_lt (tgt := 33) hx hb dX7_ifWhistled_25 (by decide) (fun c_5 => ?_) (fun c_6 => ?_)
  · skip
    subst hQ
    have hP9 : va_P G vwCl (oX7 w q qz h t gr u tr oc Sw) H := hP
    have hD9 : va_D A (oX7 w q qz h t gr u tr oc Sw) := hD
    exact e_thrW hx hb hst (own := RX7) (cls := "java/lang/IllegalArgumentException") "no such mask" ["java/lang/RuntimeException", "java/lang/Exception"] (ik := 80) (is := 287) (ic := 84) hown (by decide +kernel) (by decide +kernel) (hts (.classLink RX7 80 "java/lang/IllegalArgumentException") (by decide +kernel)) (hts (.initialized "java/lang/IllegalArgumentException") (by decide +kernel)) (hE.2.1 (RX7, 287, "no such mask") (by decide +kernel)) (xt_Z (is := 0) (ik := 0) (text := "") hC (by decide +kernel) (by decide +kernel) (fun w9 hw9 => hts w9 (List.mem_cons_of_mem _ (List.mem_append_right _ hw9)))) (by decide +kernel) hE hS (hl.1.trans hml.symm) dX7_ifWhistled_33 dX7_ifWhistled_36 dX7_ifWhistled_37 dX7_ifWhistled_40 dX7_ifWhistled_43 htab ⟨by decide, Nat.le_of_ble_eq_true rfl, Nat.le_of_ble_eq_true rfl, Nat.le_of_ble_eq_true rfl⟩ hlocks ⟨rfl, rfl⟩ rfl hP9 hD9
  · skip
    refine lv_iload_n hx hb dX7_ifWhistled_28 rfl (lv_at hl 3 rfl) ?_
    refine n_iconst hx hb 4 dX7_ifWhistled_29 (by decide) ?_
    refine lv_icmp_lt (tgt := 44) hx hb dX7_ifWhistled_30 (by decide) (fun c_7 => by exfalso; exact pBt_X hz (by assumption) c_7) (fun c_8 => ?_)
    subst hQ
    have hP9 : va_P G vwCl (oX7 w q qz h t gr u tr oc Sw) H := hP
    have hD9 : va_D A (oX7 w q qz h t gr u tr oc Sw) := hD
    exact e_thrW hx hb hst (own := RX7) (cls := "java/lang/IllegalArgumentException") "no such mask" ["java/lang/RuntimeException", "java/lang/Exception"] (ik := 80) (is := 287) (ic := 84) hown (by decide +kernel) (by decide +kernel) (hts (.classLink RX7 80 "java/lang/IllegalArgumentException") (by decide +kernel)) (hts (.initialized "java/lang/IllegalArgumentException") (by decide +kernel)) (hE.2.1 (RX7, 287, "no such mask") (by decide +kernel)) (xt_Z (is := 0) (ik := 0) (text := "") hC (by decide +kernel) (by decide +kernel) (fun w9 hw9 => hts w9 (List.mem_cons_of_mem _ (List.mem_append_right _ hw9)))) (by decide +kernel) hE hS (hl.1.trans hml.symm) dX7_ifWhistled_33 dX7_ifWhistled_36 dX7_ifWhistled_37 dX7_ifWhistled_40 dX7_ifWhistled_43 htab ⟨by decide, Nat.le_of_ble_eq_true rfl, Nat.le_of_ble_eq_true rfl, Nat.le_of_ble_eq_true rfl⟩ hlocks ⟨rfl, rfl⟩ rfl hP9 hD9
set_option maxHeartbeats 4000000 in
set_option maxRecDepth 100000 in
theorem c_X7_bestRoom (l : Launch) (G : va_G) (T : Nat → ClassId) (sz : Nat) (w : Nat → Nat) (q : Nat → Nat) (qz : Nat → Nat) (h : Nat → Nat) (t : Nat → Nat) (gr : Nat → Nat) (u : Nat → Nat) (tr : Nat → Nat) (oc : Nat → Nat) (Sw : Nat → Nat → Int32) (O : Nat → Nat → Int32) (S : Nat → Nat → Int32) (mm : Nat) (hm20 : mm < 20) : RWi l yX7_bestRoom wsX7_bestRoom 4 0 0 G T sz (oX7 w q qz h t gr u tr oc Sw ++ oX2 T oc O ++ oX3 T q S) [.ref (w 0), .int (nI mm)] (pBr S mm 6).1 (oX7 w q qz h t gr u tr oc Sw ++ oX2 T oc (pBrO O S mm 6) ++ oX3 T q S) := by
  refine Met.ofW (cc := cX7_bestRoom) (maxL := 7) (ret := (some .int)) (by decide) rfl ?_
  intro p e s m args below meth c s₁ B hml hv
  obtain ⟨ha, hsz, hP, hK, hD0, hE0⟩ := hv
  have hx := B.exec
  have hb := B.bytes
  have hr := B.returns
  have hlocks := B.notSynchronized
  have hts := atoms_spec (ws := wsX7_bestRoom) B.pre
  have hown : s.vm.findClass RX7 = some m.cls := findClass_of_methodNamed B.named
  have cx : CallFix p m c cX7_bestRoom 7 s args wsX7_bestRoom RX7 := ⟨hx, hb, hml, hown, hts⟩
  subst hsz
  have hD := hD0.self (sz := s.heap.size)
  generalize hAe : va_A (oX7 w q qz h t gr u tr oc Sw ++ oX2 T oc O ++ oX3 T q S) s.heap.size = A at hD hE0 ⊢
  have hE : gE A s s.heap := hE0
  have hA : ∀ q : Nat, s.heap.size ≤ q → A q := fun q h => by rw [← hAe]; exact Or.inr h
  have hS : va_S A s.heap s.heap [] := va_S.rf
  refine w_entry ha (Nat.le_of_ble_eq_true rfl) (fun ls hl => ?_)
  refine w_q (fun Q0 hQ => ?_)
  have lk57 := hts (.fieldLink RX7 57 "WhistleTunes" "outcome" "LWhistleTunes$Outcome;") (by decide +kernel)
  have hinX7 : ∀ w ∈ wsX70, w ∈ wsX7_bestRoom := by decide +kernel
  have lk10 := hts (.fieldLink RX7 10 "WhistleTunes" "school" "LWhistleTunes$School;") (by decide +kernel)
  have lk296 := hts (.fieldLink RX7 296 "WhistleTunes$Outcome" "understanders" "I") (by decide +kernel)
  have hinX2 : ∀ w ∈ wsX20, w ∈ wsX7_bestRoom := by decide +kernel
  have lk299 := hts (.fieldLink RX7 299 "WhistleTunes$Outcome" "catchers" "I") (by decide +kernel)
  have hl : lv_has ls 7 [(0, .ref (w 0)), (1, .int (nI mm))] := hl
  have hP : va_P G vwCl [(w 0, .inr (7, [.ref (q 0), .ref (qz 0), .ref (h 0), .ref (t 0), .ref (gr 0), .ref (u 0), .ref (tr 0), .ref (oc 0), .int (Sw 0 8)])), (oc 0, .inr (2, [.int (O 0 0), .int (O 0 1), .int (O 0 2), .int (O 0 3), .int (O 0 4)])), (q 0, .inr (3, [.int (S 0 0), .int (S 0 1), .int (S 0 2), .int (S 0 3), .ref (q 5), .ref (q 6), .ref (q 7), .ref (q 8), .ref (q 9), .ref (q 10), .ref (q 11), .ref (q 12), .ref (q 13), .ref (q 14), .ref (q 15), .ref (q 16)])), (q 5, .inl (T 0, 2, .inl (S 5))), (q 6, .inl (T 0, 20, .inl (S 6))), (q 7, .inl (T 0, 160, .inl (S 7))), (q 8, .inl (T 0, 20, .inl (S 8))), (q 9, .inl (T 0, 20, .inl (S 9))), (q 10, .inl (T 0, 20, .inl (S 10))), (q 11, .inl (T 0, 6, .inl (S 11))), (q 12, .inl (T 0, 6, .inl (S 12))), (q 13, .inl (T 0, 6, .inl (S 13))), (q 14, .inl (T 0, 6, .inl (S 14))), (q 15, .inl (T 0, 6, .inl (S 15))), (q 16, .inl (T 0, 2, .inl (S 16)))] s.heap := hP
  have hD : va_D A [(w 0, .inr (7, [.ref (q 0), .ref (qz 0), .ref (h 0), .ref (t 0), .ref (gr 0), .ref (u 0), .ref (tr 0), .ref (oc 0), .int (Sw 0 8)])), (oc 0, .inr (2, [.int (O 0 0), .int (O 0 1), .int (O 0 2), .int (O 0 3), .int (O 0 4)])), (q 0, .inr (3, [.int (S 0 0), .int (S 0 1), .int (S 0 2), .int (S 0 3), .ref (q 5), .ref (q 6), .ref (q 7), .ref (q 8), .ref (q 9), .ref (q 10), .ref (q 11), .ref (q 12), .ref (q 13), .ref (q 14), .ref (q 15), .ref (q 16)])), (q 5, .inl (T 0, 2, .inl (S 5))), (q 6, .inl (T 0, 20, .inl (S 6))), (q 7, .inl (T 0, 160, .inl (S 7))), (q 8, .inl (T 0, 20, .inl (S 8))), (q 9, .inl (T 0, 20, .inl (S 9))), (q 10, .inl (T 0, 20, .inl (S 10))), (q 11, .inl (T 0, 6, .inl (S 11))), (q 12, .inl (T 0, 6, .inl (S 12))), (q 13, .inl (T 0, 6, .inl (S 13))), (q 14, .inl (T 0, 6, .inl (S 14))), (q 15, .inl (T 0, 6, .inl (S 15))), (q 16, .inl (T 0, 2, .inl (S 16)))] := hD
  skip
  refine w_h (fun H locs hHe hLe => ?_)
  have hP : va_P G vwCl [(w 0, .inr (7, [.ref (q 0), .ref (qz 0), .ref (h 0), .ref (t 0), .ref (gr 0), .ref (u 0), .ref (tr 0), .ref (oc 0), .int (Sw 0 8)])), (oc 0, .inr (2, [.int (O 0 0), .int (O 0 1), .int (O 0 2), .int (O 0 3), .int (O 0 4)])), (q 0, .inr (3, [.int (S 0 0), .int (S 0 1), .int (S 0 2), .int (S 0 3), .ref (q 5), .ref (q 6), .ref (q 7), .ref (q 8), .ref (q 9), .ref (q 10), .ref (q 11), .ref (q 12), .ref (q 13), .ref (q 14), .ref (q 15), .ref (q 16)])), (q 5, .inl (T 0, 2, .inl (S 5))), (q 6, .inl (T 0, 20, .inl (S 6))), (q 7, .inl (T 0, 160, .inl (S 7))), (q 8, .inl (T 0, 20, .inl (S 8))), (q 9, .inl (T 0, 20, .inl (S 9))), (q 10, .inl (T 0, 20, .inl (S 10))), (q 11, .inl (T 0, 6, .inl (S 11))), (q 12, .inl (T 0, 6, .inl (S 12))), (q 13, .inl (T 0, 6, .inl (S 13))), (q 14, .inl (T 0, 6, .inl (S 14))), (q 15, .inl (T 0, 6, .inl (S 15))), (q 16, .inl (T 0, 2, .inl (S 16)))] H := by rw [hHe]; exact hP
  have hS : va_S A s.heap H locs := by rw [hHe, hLe]; exact hS
  refine lv_iload_n hx hb dX7_bestRoom_0 rfl (lv_at hl 1 rfl) ?_
  refine k_roS (As := [.int (nI mm)]) (rest := []) (wc := []) (d := 0) (v := bI (pBt (nI mm) 20)) cx (c_X7_isMessage l G T A (nI mm) ) (va_cwS 1 hts gX7_bestRoom_X7_isMessage rfl rfl rfl (by decide +kernel) ⟨Nat.le_of_ble_eq_true rfl, Nat.le_of_ble_eq_true rfl⟩) (hP.sub (ws' := []) [] rfl) hK (hE.kept hS.2.1) rfl hl.1 rfl (Nat.le_of_ble_eq_true rfl) dX7_bestRoom_1 ⟨Nat.le_of_ble_eq_true rfl, Nat.le_of_ble_eq_true rfl⟩ ?_
  refine b_if_ne (b := pBt (nI mm) 20) (tgt := 17) hx hb dX7_bestRoom_4 (by decide) (fun c_1 => ?_) (fun c_2 => by exfalso; rw [pBt_T hm20 (by decide)] at c_2; cases c_2)
  refine lv_iconst (v := -1) hx hb dX7_bestRoom_17 (by decide) ?_
  refine lv_istore_n (lv' := [(2, .int (-1)), (0, .ref (w 0)), (1, .int (nI mm))]) hx hb dX7_bestRoom_18 rfl hl (by decide) rfl (fun ls hl => ?_)
  refine lv_iconst (v := -1) hx hb dX7_bestRoom_19 (by decide) ?_
  refine lv_istore_n (lv' := [(3, .int (-1)), (2, .int (-1)), (0, .ref (w 0)), (1, .int (nI mm))]) hx hb dX7_bestRoom_20 rfl hl (by decide) rfl (fun ls hl => ?_)
  refine n_iconst hx hb 0 dX7_bestRoom_21 (by decide) ?_
  refine lv_istore (lv' := [(4, .int (nI 0)), (3, .int (-1)), (2, .int (-1)), (0, .ref (w 0)), (1, .int (nI mm))]) hx hb dX7_bestRoom_22 hl (by decide) rfl (fun ls hl => ?_)
  have L24 : ∀ (n9 k : Nat) (hk1 : k ≤ 6) (hk2 : 6 - k < n9) (x4 : Int32) (x3 : Int32) (x2 : Int32) (y_3 : Int32) (y_4 : Int32) (y_5 : Int32) (y_6 : Int32) (y_7 : Int32) (hx4 : x4 = nI k) (hx3 : x3 = (pBr S mm k).2) (hx2 : x2 = (pBr S mm k).1) (hy_3 : y_3 = pBrO O S mm k 0 0) (hy_4 : y_4 = pBrO O S mm k 0 1) (hy_5 : y_5 = pBrO O S mm k 0 2) (hy_6 : y_6 = pBrO O S mm k 0 3) (hy_7 : y_7 = pBrO O S mm k 0 4) (H : Heap) (locs : List Loc) (hP : va_P G vwCl [(w 0, .inr (7, [.ref (q 0), .ref (qz 0), .ref (h 0), .ref (t 0), .ref (gr 0), .ref (u 0), .ref (tr 0), .ref (oc 0), .int (Sw 0 8)])), (oc 0, .inr (2, [.int y_3, .int y_4, .int y_5, .int y_6, .int y_7])), (q 0, .inr (3, [.int (S 0 0), .int (S 0 1), .int (S 0 2), .int (S 0 3), .ref (q 5), .ref (q 6), .ref (q 7), .ref (q 8), .ref (q 9), .ref (q 10), .ref (q 11), .ref (q 12), .ref (q 13), .ref (q 14), .ref (q 15), .ref (q 16)])), (q 5, .inl (T 0, 2, .inl (S 5))), (q 6, .inl (T 0, 20, .inl (S 6))), (q 7, .inl (T 0, 160, .inl (S 7))), (q 8, .inl (T 0, 20, .inl (S 8))), (q 9, .inl (T 0, 20, .inl (S 9))), (q 10, .inl (T 0, 20, .inl (S 10))), (q 11, .inl (T 0, 6, .inl (S 11))), (q 12, .inl (T 0, 6, .inl (S 12))), (q 13, .inl (T 0, 6, .inl (S 13))), (q 14, .inl (T 0, 6, .inl (S 14))), (q 15, .inl (T 0, 6, .inl (S 15))), (q 16, .inl (T 0, 2, .inl (S 16)))] H) (hD : va_D A [(w 0, .inr (7, [.ref (q 0), .ref (qz 0), .ref (h 0), .ref (t 0), .ref (gr 0), .ref (u 0), .ref (tr 0), .ref (oc 0), .int (Sw 0 8)])), (oc 0, .inr (2, [.int y_3, .int y_4, .int y_5, .int y_6, .int y_7])), (q 0, .inr (3, [.int (S 0 0), .int (S 0 1), .int (S 0 2), .int (S 0 3), .ref (q 5), .ref (q 6), .ref (q 7), .ref (q 8), .ref (q 9), .ref (q 10), .ref (q 11), .ref (q 12), .ref (q 13), .ref (q 14), .ref (q 15), .ref (q 16)])), (q 5, .inl (T 0, 2, .inl (S 5))), (q 6, .inl (T 0, 20, .inl (S 6))), (q 7, .inl (T 0, 160, .inl (S 7))), (q 8, .inl (T 0, 20, .inl (S 8))), (q 9, .inl (T 0, 20, .inl (S 9))), (q 10, .inl (T 0, 20, .inl (S 10))), (q 11, .inl (T 0, 6, .inl (S 11))), (q 12, .inl (T 0, 6, .inl (S 12))), (q 13, .inl (T 0, 6, .inl (S 13))), (q 14, .inl (T 0, 6, .inl (S 14))), (q 15, .inl (T 0, 6, .inl (S 15))), (q 16, .inl (T 0, 2, .inl (S 16)))]) (hS : va_S A s.heap H locs) (ls : Array Slot) (hl : lv_has ls 7 [(4, .int x4), (3, .int x3), (2, .int x2), (0, .ref (w 0)), (1, .int (nI mm))]), W p l e (headSpec wsX7_bestRoom (rmD 4 0 0)).room s m args below meth c H locs 0 0 Q0 (F0 m 24 ls []) := by
    intro n9
    induction n9 with
    | zero => intros; omega
    | succ n9 ih24 =>
      intro k hk1 hk2 x4 x3 x2 y_3 y_4 y_5 y_6 y_7 hx4 hx3 hx2 hy_3 hy_4 hy_5 hy_6 hy_7 H locs hP hD hS ls hl
      subst hx4 hx3 hx2 hy_3 hy_4 hy_5 hy_6 hy_7
      refine lv_iload hx hb dX7_bestRoom_24 (lv_at hl 0 rfl) ?_
      refine lv_bipush (v := nI 6) hx hb dX7_bestRoom_26 (by decide) ?_
      refine n_icmp_ge (a := k) (b := 6) (tgt := 110) hx hb (by omega) (by decide) dX7_bestRoom_28 (by decide) (fun c_8 => ?_) (fun c_9 => ?_)
      · skip
        obtain rfl : k = 6 := (by omega)
        refine lv_iload_n hx hb dX7_bestRoom_110 rfl (lv_at hl 2 rfl) ?_
        subst hQ
        have hP9 : va_P G vwCl (oX7 w q qz h t gr u tr oc Sw ++ oX2 T oc (pBrO O S mm 6) ++ oX3 T q S) H := hP
        have hD9 : va_D A (oX7 w q qz h t gr u tr oc Sw ++ oX2 T oc (pBrO O S mm 6) ++ oX3 T q S) := hD
        exact e_rwi hx hb hr hlocks hS rfl hP9 hD9 dX7_bestRoom_111
      · skip
        refine lv_aload_n hx hb dX7_bestRoom_31 rfl (lv_at hl 3 rfl) ?_
        refine va_get (D := G) (ci := 7) (v := .ref (oc 0)) (C := RX7) (T := TX7) (N := 9) hx hb hts hinX7 hown hK hP 0 rfl rfl 7 (by decide) lk57 (fun _ h9 => h9) rfl dX7_bestRoom_32 ?_
        refine lv_aload_n hx hb dX7_bestRoom_35 rfl (lv_at hl 3 rfl) ?_
        refine va_get (D := G) (ci := 7) (v := .ref (q 0)) (C := RX7) (T := TX7) (N := 9) hx hb hts hinX7 hown hK hP 0 rfl rfl 0 (by decide) lk10 (fun _ h9 => h9) rfl dX7_bestRoom_36 ?_
        refine lv_iload hx hb dX7_bestRoom_39 (lv_at hl 0 rfl) ?_
        refine lv_iload_n hx hb dX7_bestRoom_41 rfl (lv_at hl 4 rfl) ?_
        refine k_rvV (As := [.ref (q 0), .int (nI k), .int (nI mm)]) (rest := []) (wc := oX2 T oc (sc (sc (sc (sc (sc O 0 (pBrO O S mm k 0 0)) 1 (pBrO O S mm k 0 1)) 2 (pBrO O S mm k 0 2)) 3 (pBrO O S mm k 0 3)) 4 (pBrO O S mm k 0 4)) ++ oX3 T q S) (wr := oX7 w q qz h t gr u tr oc Sw) (w1 := oX2 T oc (sc (sc (sc (sc (sc (sc (sc (sc (sc (sc O 0 (pBrO O S mm k 0 0)) 1 (pBrO O S mm k 0 1)) 2 (pBrO O S mm k 0 2)) 3 (pBrO O S mm k 0 3)) 4 (pBrO O S mm k 0 4)) 0 (pFHo S k 3)) 1 (pHe S k)) 2 (pUn S k)) 3 (pCa S k mm)) 4 (pRa S k mm)) ++ oX3 T q S) (d := 2) (mc := 0) (ms := 0) (isC := [1, 2, 3, 4, 5, 6, 7, 8, 9, 10, 11, 12, 13, 14]) (isR := [0]) cx (c_X2_foresee l G T H.size oc q (sc (sc (sc (sc (sc O 0 (pBrO O S mm k 0 0)) 1 (pBrO O S mm k 0 1)) 2 (pBrO O S mm k 0 2)) 3 (pBrO O S mm k 0 3)) 4 (pBrO O S mm k 0 4)) S k mm (by omega) (by omega)) (cwV 3 hts gX7_bestRoom_X2_foresee rfl rfl rfl (by decide +kernel) ⟨Nat.le_of_ble_eq_true rfl, Nat.le_of_ble_eq_true rfl⟩) ⟨hP, hD, hS, hA, hE, hK, rfl, rfl, rfl, rfl, by decide⟩ (va_recv hK hP (ci := 2) (q0 := 1) rfl rfl) rfl hl.1 rfl (Nat.le_of_ble_eq_true rfl) dX7_bestRoom_42 ⟨Nat.le_of_ble_eq_true rfl, Nat.le_of_ble_eq_true rfl⟩ (fun H locs hP hD hS hz => ?_)
        have hP : va_P G vwCl [(w 0, .inr (7, [.ref (q 0), .ref (qz 0), .ref (h 0), .ref (t 0), .ref (gr 0), .ref (u 0), .ref (tr 0), .ref (oc 0), .int (Sw 0 8)])), (oc 0, .inr (2, [.int (pFHo S k 3), .int (pHe S k), .int (pUn S k), .int (pCa S k mm), .int (pRa S k mm)])), (q 0, .inr (3, [.int (S 0 0), .int (S 0 1), .int (S 0 2), .int (S 0 3), .ref (q 5), .ref (q 6), .ref (q 7), .ref (q 8), .ref (q 9), .ref (q 10), .ref (q 11), .ref (q 12), .ref (q 13), .ref (q 14), .ref (q 15), .ref (q 16)])), (q 5, .inl (T 0, 2, .inl (S 5))), (q 6, .inl (T 0, 20, .inl (S 6))), (q 7, .inl (T 0, 160, .inl (S 7))), (q 8, .inl (T 0, 20, .inl (S 8))), (q 9, .inl (T 0, 20, .inl (S 9))), (q 10, .inl (T 0, 20, .inl (S 10))), (q 11, .inl (T 0, 6, .inl (S 11))), (q 12, .inl (T 0, 6, .inl (S 12))), (q 13, .inl (T 0, 6, .inl (S 13))), (q 14, .inl (T 0, 6, .inl (S 14))), (q 15, .inl (T 0, 6, .inl (S 15))), (q 16, .inl (T 0, 2, .inl (S 16)))] H := hP
        have hD : va_D A [(w 0, .inr (7, [.ref (q 0), .ref (qz 0), .ref (h 0), .ref (t 0), .ref (gr 0), .ref (u 0), .ref (tr 0), .ref (oc 0), .int (Sw 0 8)])), (oc 0, .inr (2, [.int (pFHo S k 3), .int (pHe S k), .int (pUn S k), .int (pCa S k mm), .int (pRa S k mm)])), (q 0, .inr (3, [.int (S 0 0), .int (S 0 1), .int (S 0 2), .int (S 0 3), .ref (q 5), .ref (q 6), .ref (q 7), .ref (q 8), .ref (q 9), .ref (q 10), .ref (q 11), .ref (q 12), .ref (q 13), .ref (q 14), .ref (q 15), .ref (q 16)])), (q 5, .inl (T 0, 2, .inl (S 5))), (q 6, .inl (T 0, 20, .inl (S 6))), (q 7, .inl (T 0, 160, .inl (S 7))), (q 8, .inl (T 0, 20, .inl (S 8))), (q 9, .inl (T 0, 20, .inl (S 9))), (q 10, .inl (T 0, 20, .inl (S 10))), (q 11, .inl (T 0, 6, .inl (S 11))), (q 12, .inl (T 0, 6, .inl (S 12))), (q 13, .inl (T 0, 6, .inl (S 13))), (q 14, .inl (T 0, 6, .inl (S 14))), (q 15, .inl (T 0, 6, .inl (S 15))), (q 16, .inl (T 0, 2, .inl (S 16)))] := hD
        refine lv_aload_n hx hb dX7_bestRoom_45 rfl (lv_at hl 3 rfl) ?_
        refine va_get (D := G) (ci := 7) (v := .ref (oc 0)) (C := RX7) (T := TX7) (N := 9) hx hb hts hinX7 hown hK hP 0 rfl rfl 7 (by decide) lk57 (fun _ h9 => h9) rfl dX7_bestRoom_46 ?_
        refine va_get (D := G) (ci := 2) (v := .int (pUn S k)) (C := RX2) (T := TX2) (N := 5) hx hb hts hinX2 hown hK hP 1 rfl rfl 2 (by decide) lk296 (fun _ h9 => h9) rfl dX7_bestRoom_49 ?_
        refine k_roS (As := [.int (pUn S k)]) (rest := []) (wc := []) (d := 0) (v := pBC (pUn S k)) cx (c_J6_bitCount_0f7a4 l G T A (pUn S k) ) (va_cwS 1 hts gX7_bestRoom_J6_bitCount_0f7a4 rfl rfl rfl (by decide +kernel) ⟨Nat.le_of_ble_eq_true rfl, Nat.le_of_ble_eq_true rfl⟩) (hP.sub (ws' := []) [] rfl) hK (hE.kept hS.2.1) rfl hl.1 rfl (Nat.le_of_ble_eq_true rfl) dX7_bestRoom_52 ⟨Nat.le_of_ble_eq_true rfl, Nat.le_of_ble_eq_true rfl⟩ ?_
        refine lv_istore (lv' := [(5, .int (pBC (pUn S k))), (4, .int (nI k)), (3, .int ((pBr S mm k).2)), (2, .int ((pBr S mm k).1)), (0, .ref (w 0)), (1, .int (nI mm))]) hx hb dX7_bestRoom_55 hl (by decide) rfl (fun ls hl => ?_)
        refine lv_aload_n hx hb dX7_bestRoom_57 rfl (lv_at hl 4 rfl) ?_
        refine va_get (D := G) (ci := 7) (v := .ref (oc 0)) (C := RX7) (T := TX7) (N := 9) hx hb hts hinX7 hown hK hP 0 rfl rfl 7 (by decide) lk57 (fun _ h9 => h9) rfl dX7_bestRoom_58 ?_
        refine va_get (D := G) (ci := 2) (v := .int (pCa S k mm)) (C := RX2) (T := TX2) (N := 5) hx hb hts hinX2 hown hK hP 1 rfl rfl 3 (by decide) lk299 (fun _ h9 => h9) rfl dX7_bestRoom_61 ?_
        refine lv_if_ne (tgt := 84) hx hb dX7_bestRoom_64 (by decide) (fun c_10 => ?_) (fun c_11 => ?_)
        · skip
          refine n_iconst hx hb 0 dX7_bestRoom_84 (by decide) ?_
          refine lv_istore (lv' := [(6, .int (nI 0)), (5, .int (pBC (pUn S k))), (4, .int (nI k)), (3, .int ((pBr S mm k).2)), (2, .int ((pBr S mm k).1)), (0, .ref (w 0)), (1, .int (nI mm))]) hx hb dX7_bestRoom_85 hl (by decide) rfl (fun ls hl => ?_)
          refine lv_iload hx hb dX7_bestRoom_87 (lv_at hl 0 rfl) ?_
          refine n_if_eq (a := 0) (tgt := 104) hx hb (by decide) dX7_bestRoom_89 (by decide) (fun c_12 => ?_) (fun h9 => absurd h9 (by decide))
          refine lv_iinc (v := nI (k + 1)) (lv' := [(4, .int (nI (k + 1))), (6, .int (nI 0)), (5, .int (pBC (pUn S k))), (3, .int ((pBr S mm k).2)), (2, .int ((pBr S mm k).1)), (0, .ref (w 0)), (1, .int (nI mm))]) hx hb dX7_bestRoom_104 hl (k := 2) rfl (n_inc k 1 rfl) (by decide) rfl (fun ls hl => ?_)
          refine lv_goto (tgt := 24) hx hb dX7_bestRoom_107 (by decide) ?_
          have e_13 : (pBr S mm k).2 = (pBr S mm (k + 1)).2 := (by first | (rw [pBr_1 ⟨by assumption, by assumption, by assumption⟩]; done) | (rw [pBr_2 (by rintro ⟨h1, h2, h3⟩; contradiction)]; done))
          have e_14 : (pBr S mm k).1 = (pBr S mm (k + 1)).1 := (by first | (rw [pBr_1 ⟨by assumption, by assumption, by assumption⟩]; done) | (rw [pBr_2 (by rintro ⟨h1, h2, h3⟩; contradiction)]; done))
          have e_15 : (pFHo S k 3) = pBrO O S mm (k + 1) 0 0 := rfl
          have e_16 : (pHe S k) = pBrO O S mm (k + 1) 0 1 := rfl
          have e_17 : (pUn S k) = pBrO O S mm (k + 1) 0 2 := rfl
          have e_18 : (pCa S k mm) = pBrO O S mm (k + 1) 0 3 := rfl
          have e_19 : (pRa S k mm) = pBrO O S mm (k + 1) 0 4 := rfl
          exact ih24 (k + 1) (by omega) (by omega) _ _ _ _ _ _ _ _ rfl e_13 e_14 e_15 e_16 e_17 e_18 e_19 _ _ hP hD hS _ (lv_sub hl [0, 3, 4, 5, 6] rfl)
        · skip
          refine lv_aload_n hx hb dX7_bestRoom_67 rfl (lv_at hl 4 rfl) ?_
          refine va_get (D := G) (ci := 7) (v := .ref (q 0)) (C := RX7) (T := TX7) (N := 9) hx hb hts hinX7 hown hK hP 0 rfl rfl 0 (by decide) lk10 (fun _ h9 => h9) rfl dX7_bestRoom_68 ?_
          refine lv_iload hx hb dX7_bestRoom_71 (lv_at hl 1 rfl) ?_
          refine lv_iload_n hx hb dX7_bestRoom_73 rfl (lv_at hl 5 rfl) ?_
          refine k_roV (As := [.int (nI k), .int (nI mm)]) (rest := []) (wc := oX3 T q S) (d := 1) (v := pWhy S k mm) cx (c_X3_reasonAgainst l G T A q S k mm (by omega) (by omega)) (cwV 2 hts gX7_bestRoom_X3_reasonAgainst rfl rfl rfl (by decide +kernel) ⟨Nat.le_of_ble_eq_true rfl, Nat.le_of_ble_eq_true rfl⟩) (hP.sub (ws' := oX3 T q S) [2, 3, 4, 5, 6, 7, 8, 9, 10, 11, 12, 13, 14] rfl) hK (hE.kept hS.2.1) (va_recv hK hP (ci := 3) (q0 := 2) rfl rfl) rfl hl.1 rfl (Nat.le_of_ble_eq_true rfl) dX7_bestRoom_74 ⟨Nat.le_of_ble_eq_true rfl, Nat.le_of_ble_eq_true rfl⟩ ?_
          refine lv_if_ne (tgt := 84) hx hb dX7_bestRoom_77 (by decide) (fun c_20 => ?_) (fun c_21 => ?_)
          · skip
            refine n_iconst hx hb 0 dX7_bestRoom_84 (by decide) ?_
            refine lv_istore (lv' := [(6, .int (nI 0)), (5, .int (pBC (pUn S k))), (4, .int (nI k)), (3, .int ((pBr S mm k).2)), (2, .int ((pBr S mm k).1)), (0, .ref (w 0)), (1, .int (nI mm))]) hx hb dX7_bestRoom_85 hl (by decide) rfl (fun ls hl => ?_)
            refine lv_iload hx hb dX7_bestRoom_87 (lv_at hl 0 rfl) ?_
            refine n_if_eq (a := 0) (tgt := 104) hx hb (by decide) dX7_bestRoom_89 (by decide) (fun c_22 => ?_) (fun h9 => absurd h9 (by decide))
            refine lv_iinc (v := nI (k + 1)) (lv' := [(4, .int (nI (k + 1))), (6, .int (nI 0)), (5, .int (pBC (pUn S k))), (3, .int ((pBr S mm k).2)), (2, .int ((pBr S mm k).1)), (0, .ref (w 0)), (1, .int (nI mm))]) hx hb dX7_bestRoom_104 hl (k := 2) rfl (n_inc k 1 rfl) (by decide) rfl (fun ls hl => ?_)
            refine lv_goto (tgt := 24) hx hb dX7_bestRoom_107 (by decide) ?_
            have e_23 : (pBr S mm k).2 = (pBr S mm (k + 1)).2 := (by first | (rw [pBr_1 ⟨by assumption, by assumption, by assumption⟩]; done) | (rw [pBr_2 (by rintro ⟨h1, h2, h3⟩; contradiction)]; done))
            have e_24 : (pBr S mm k).1 = (pBr S mm (k + 1)).1 := (by first | (rw [pBr_1 ⟨by assumption, by assumption, by assumption⟩]; done) | (rw [pBr_2 (by rintro ⟨h1, h2, h3⟩; contradiction)]; done))
            have e_25 : (pFHo S k 3) = pBrO O S mm (k + 1) 0 0 := rfl
            have e_26 : (pHe S k) = pBrO O S mm (k + 1) 0 1 := rfl
            have e_27 : (pUn S k) = pBrO O S mm (k + 1) 0 2 := rfl
            have e_28 : (pCa S k mm) = pBrO O S mm (k + 1) 0 3 := rfl
            have e_29 : (pRa S k mm) = pBrO O S mm (k + 1) 0 4 := rfl
            exact ih24 (k + 1) (by omega) (by omega) _ _ _ _ _ _ _ _ rfl e_23 e_24 e_25 e_26 e_27 e_28 e_29 _ _ hP hD hS _ (lv_sub hl [0, 3, 4, 5, 6] rfl)
          · skip
            refine n_iconst hx hb 1 dX7_bestRoom_80 (by decide) ?_
            refine lv_goto (tgt := 85) hx hb dX7_bestRoom_81 (by decide) ?_
            refine lv_istore (lv' := [(6, .int (nI 1)), (5, .int (pBC (pUn S k))), (4, .int (nI k)), (3, .int ((pBr S mm k).2)), (2, .int ((pBr S mm k).1)), (0, .ref (w 0)), (1, .int (nI mm))]) hx hb dX7_bestRoom_85 hl (by decide) rfl (fun ls hl => ?_)
            refine lv_iload hx hb dX7_bestRoom_87 (lv_at hl 0 rfl) ?_
            refine n_if_eq (a := 1) (tgt := 104) hx hb (by decide) dX7_bestRoom_89 (by decide) (fun h9 => absurd h9 (by decide)) (fun c_30 => ?_)
            refine lv_iload hx hb dX7_bestRoom_92 (lv_at hl 1 rfl) ?_
            refine lv_iload_n hx hb dX7_bestRoom_94 rfl (lv_at hl 3 rfl) ?_
            refine lv_icmp_le (tgt := 104) hx hb dX7_bestRoom_95 (by decide) (fun c_31 => ?_) (fun c_32 => ?_)
            · skip
              refine lv_iinc (v := nI (k + 1)) (lv' := [(4, .int (nI (k + 1))), (6, .int (nI 1)), (5, .int (pBC (pUn S k))), (3, .int ((pBr S mm k).2)), (2, .int ((pBr S mm k).1)), (0, .ref (w 0)), (1, .int (nI mm))]) hx hb dX7_bestRoom_104 hl (k := 2) rfl (n_inc k 1 rfl) (by decide) rfl (fun ls hl => ?_)
              refine lv_goto (tgt := 24) hx hb dX7_bestRoom_107 (by decide) ?_
              have e_33 : (pBr S mm k).2 = (pBr S mm (k + 1)).2 := (by first | (rw [pBr_1 ⟨by assumption, by assumption, by assumption⟩]; done) | (rw [pBr_2 (by rintro ⟨h1, h2, h3⟩; contradiction)]; done))
              have e_34 : (pBr S mm k).1 = (pBr S mm (k + 1)).1 := (by first | (rw [pBr_1 ⟨by assumption, by assumption, by assumption⟩]; done) | (rw [pBr_2 (by rintro ⟨h1, h2, h3⟩; contradiction)]; done))
              have e_35 : (pFHo S k 3) = pBrO O S mm (k + 1) 0 0 := rfl
              have e_36 : (pHe S k) = pBrO O S mm (k + 1) 0 1 := rfl
              have e_37 : (pUn S k) = pBrO O S mm (k + 1) 0 2 := rfl
              have e_38 : (pCa S k mm) = pBrO O S mm (k + 1) 0 3 := rfl
              have e_39 : (pRa S k mm) = pBrO O S mm (k + 1) 0 4 := rfl
              exact ih24 (k + 1) (by omega) (by omega) _ _ _ _ _ _ _ _ rfl e_33 e_34 e_35 e_36 e_37 e_38 e_39 _ _ hP hD hS _ (lv_sub hl [0, 3, 4, 5, 6] rfl)
            · skip
              refine lv_iload hx hb dX7_bestRoom_98 (lv_at hl 1 rfl) ?_
              refine lv_istore_n (lv' := [(3, .int (pBC (pUn S k))), (6, .int (nI 1)), (5, .int (pBC (pUn S k))), (4, .int (nI k)), (2, .int ((pBr S mm k).1)), (0, .ref (w 0)), (1, .int (nI mm))]) hx hb dX7_bestRoom_100 rfl hl (by decide) rfl (fun ls hl => ?_)
              refine lv_iload hx hb dX7_bestRoom_101 (lv_at hl 3 rfl) ?_
              refine lv_istore_n (lv' := [(2, .int (nI k)), (3, .int (pBC (pUn S k))), (6, .int (nI 1)), (5, .int (pBC (pUn S k))), (4, .int (nI k)), (0, .ref (w 0)), (1, .int (nI mm))]) hx hb dX7_bestRoom_103 rfl hl (by decide) rfl (fun ls hl => ?_)
              refine lv_iinc (v := nI (k + 1)) (lv' := [(4, .int (nI (k + 1))), (2, .int (nI k)), (3, .int (pBC (pUn S k))), (6, .int (nI 1)), (5, .int (pBC (pUn S k))), (0, .ref (w 0)), (1, .int (nI mm))]) hx hb dX7_bestRoom_104 hl (k := 4) rfl (n_inc k 1 rfl) (by decide) rfl (fun ls hl => ?_)
              refine lv_goto (tgt := 24) hx hb dX7_bestRoom_107 (by decide) ?_
              have e_40 : (pBC (pUn S k)) = (pBr S mm (k + 1)).2 := (by first | (rw [pBr_1 ⟨by assumption, by assumption, by assumption⟩]; done) | (rw [pBr_2 (by rintro ⟨h1, h2, h3⟩; contradiction)]; done))
              have e_41 : (nI k) = (pBr S mm (k + 1)).1 := (by first | (rw [pBr_1 ⟨by assumption, by assumption, by assumption⟩]; done) | (rw [pBr_2 (by rintro ⟨h1, h2, h3⟩; contradiction)]; done))
              have e_42 : (pFHo S k 3) = pBrO O S mm (k + 1) 0 0 := rfl
              have e_43 : (pHe S k) = pBrO O S mm (k + 1) 0 1 := rfl
              have e_44 : (pUn S k) = pBrO O S mm (k + 1) 0 2 := rfl
              have e_45 : (pCa S k mm) = pBrO O S mm (k + 1) 0 3 := rfl
              have e_46 : (pRa S k mm) = pBrO O S mm (k + 1) 0 4 := rfl
              exact ih24 (k + 1) (by omega) (by omega) _ _ _ _ _ _ _ _ rfl e_40 e_41 e_42 e_43 e_44 e_45 e_46 _ _ hP hD hS _ (lv_sub hl [0, 2, 1, 5, 6] rfl)
  exact L24 (6 + 1) 0 (by omega) (by omega) _ _ _ _ _ _ _ _ rfl rfl rfl rfl rfl rfl rfl rfl _ _ hP hD hS _ (lv_sub hl [0, 1, 2, 3, 4] rfl)
set_option maxHeartbeats 4000000 in
set_option maxRecDepth 100000 in
theorem c_X7_bestRoom_t (l : Launch) (hst : l.stackTraces = false) (G : va_G) (T : Nat → ClassId) (sz : Nat) (w : Nat → Nat) (q : Nat → Nat) (qz : Nat → Nat) (h : Nat → Nat) (t : Nat → Nat) (gr : Nat → Nat) (u : Nat → Nat) (tr : Nat → Nat) (oc : Nat → Nat) (Sw : Nat → Nat → Int32) (x : Int32) (hbx : pBt x 20 = false) : RX l yX7_bestRoom wsX7_bestRoom 7 G T sz (oX7 w q qz h t gr u tr oc Sw) [.ref (w 0), .int x] (.inr "java/lang/IndexOutOfBoundsException") (oX7 w q qz h t gr u tr oc Sw) := by
  refine vx_ofW (cc := cX7_bestRoom) (maxL := 7) (ret := (some .int)) (by decide) rfl ?_
  intro p e s m args below meth c s₁ B hml htab hv
  obtain ⟨ha, ⟨hsz, hP, hK, hD0, hE0⟩, hC⟩ := hv
  have hx := B.exec
  have hb := B.bytes
  have hr := B.returns
  have hlocks := B.notSynchronized
  have hts := atoms_spec (ws := wsX7_bestRoom) B.pre
  have hown : s.vm.findClass RX7 = some m.cls := findClass_of_methodNamed B.named
  have cx : CallFix p m c cX7_bestRoom 7 s args wsX7_bestRoom RX7 := ⟨hx, hb, hml, hown, hts⟩
  subst hsz
  have hD := hD0.self (sz := s.heap.size)
  generalize hAe : va_A (oX7 w q qz h t gr u tr oc Sw) s.heap.size = A at hD hE0 ⊢
  have hE : gE A s s.heap := hE0
  have hA : ∀ q : Nat, s.heap.size ≤ q → A q := fun q h => by rw [← hAe]; exact Or.inr h
  have hS : va_S A s.heap s.heap [] := va_S.rf
  refine w_entry ha (Nat.le_of_ble_eq_true rfl) (fun ls hl => ?_)
  refine w_q (fun Q0 hQ => ?_)
  have hl : lv_has ls 7 [(0, .ref (w 0)), (1, .int x)] := hl
  have hP : va_P G vwCl [(w 0, .inr (7, [.ref (q 0), .ref (qz 0), .ref (h 0), .ref (t 0), .ref (gr 0), .ref (u 0), .ref (tr 0), .ref (oc 0), .int (Sw 0 8)]))] s.heap := hP
  have hD : va_D A [(w 0, .inr (7, [.ref (q 0), .ref (qz 0), .ref (h 0), .ref (t 0), .ref (gr 0), .ref (u 0), .ref (tr 0), .ref (oc 0), .int (Sw 0 8)]))] := hD
  skip
  refine w_h (fun H locs hHe hLe => ?_)
  have hP : va_P G vwCl [(w 0, .inr (7, [.ref (q 0), .ref (qz 0), .ref (h 0), .ref (t 0), .ref (gr 0), .ref (u 0), .ref (tr 0), .ref (oc 0), .int (Sw 0 8)]))] H := by rw [hHe]; exact hP
  have hS : va_S A s.heap H locs := by rw [hHe, hLe]; exact hS
  refine lv_iload_n hx hb dX7_bestRoom_0 rfl (lv_at hl 1 rfl) ?_
  refine k_roS (As := [.int x]) (rest := []) (wc := []) (d := 0) (v := bI (pBt x 20)) cx (c_X7_isMessage l G T A x ) (va_cwS 1 hts gX7_bestRoom_X7_isMessage rfl rfl rfl (by decide +kernel) ⟨Nat.le_of_ble_eq_true rfl, Nat.le_of_ble_eq_true rfl⟩) (hP.sub (ws' := []) [] rfl) hK (hE.kept hS.2.1) rfl hl.1 rfl (Nat.le_of_ble_eq_true rfl) dX7_bestRoom_1 ⟨Nat.le_of_ble_eq_true rfl, Nat.le_of_ble_eq_true rfl⟩ ?_
  refine b_if_ne (b := pBt x 20) (tgt := 17) hx hb dX7_bestRoom_4 (by decide) (fun c_1 => by exfalso; rw [hbx] at c_1; cases c_1) (fun c_2 => ?_)
  subst hQ
  have hP9 : va_P G vwCl (oX7 w q qz h t gr u tr oc Sw) H := hP
  have hD9 : va_D A (oX7 w q qz h t gr u tr oc Sw) := hD
  exact e_thr hx hb hst (own := RX7) (cls := "java/lang/IndexOutOfBoundsException") "no such message" ["java/lang/RuntimeException", "java/lang/Exception"] (ik := 69) (is := 71) (ic := 73) hown (by decide +kernel) (by decide +kernel) (hts (.classLink RX7 69 "java/lang/IndexOutOfBoundsException") (by decide +kernel)) (hts (.initialized "java/lang/IndexOutOfBoundsException") (by decide +kernel)) (hE.2.1 (RX7, 71, "no such message") (by decide +kernel)) (xt_Z (is := 0) (ik := 0) (text := "") hC (by decide +kernel) (by decide +kernel) (fun w9 hw9 => hts w9 (List.mem_cons_of_mem _ (List.mem_append_right _ hw9)))) (by decide +kernel) hE hS (hl.1.trans hml.symm) dX7_bestRoom_7 dX7_bestRoom_10 dX7_bestRoom_11 dX7_bestRoom_13 dX7_bestRoom_16 htab ⟨by decide, Nat.le_of_ble_eq_true rfl, Nat.le_of_ble_eq_true rfl, Nat.le_of_ble_eq_true rfl⟩ hlocks ⟨rfl, rfl⟩ rfl hP9 hD9
