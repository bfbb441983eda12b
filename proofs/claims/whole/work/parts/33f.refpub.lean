/-! the reference's public methods: their contracts by case (printed by wip/whole/s55.py). tuZ: its content behind the reading of a tune, svZ: behind save -/
def tuZ (cd : Nat → Nat) (L : Nat) (Z : Nat → Nat → Int32) : Nat → Nat → Int32 := sa (sa (sc (sc (sc Z 0 (nI 0)) 8 (nI (rtE cd L 0 (Z 13) (Z 15)).1.1)) 13 (nI (rtE cd L 0 (Z 13) (Z 15)).1.2.1)) 13 (rtE cd L 0 (Z 13) (Z 15)).1.2.2) 15 (rtE cd L 0 (Z 13) (Z 15)).2.1.2
def tuB (cd : Nat → Nat) (L : Nat) (Z : Nat → Nat → Int32) : Bool := rtB (rtE cd L 0 (Z 13) (Z 15)) && decide ((rtE cd L 0 (Z 13) (Z 15)).1.1 = L)
def tuN (cd : Nat → Nat) (L : Nat) (Z : Nat → Nat → Int32) : Nat := (rtE cd L 0 (Z 13) (Z 15)).1.2.1
theorem tuN_le (cd : Nat → Nat) (L : Nat) (Z : Nat → Nat → Int32) : tuN cd L Z ≤ 9 := (rtE_I (Nat.zero_le _)).2.1
theorem tuA_le (cd : Nat → Nat) (L : Nat) (Z : Nat → Nat → Int32) : (rtE cd L 0 (Z 13) (Z 15)).1.1 ≤ L := (rtE_I (Nat.zero_le _)).1
def svZ (Z : Nat → Nat → Int32) (sv : Nat) : Nat → Nat → Int32 := sa (sc (sc Z 0 (nI 0)) 3 (nI (mSvN sv))) 3 (mSvF (Z 3) (Z 2) sv)

set_option maxHeartbeats 4000000 in
set_option maxRecDepth 100000 in
theorem c_X8_teach_1 (l : Launch) (G : va_G) (T : Nat → ClassId) (sz : Nat) (q : Nat → Nat) (Z : Nat → Nat → Int32) (g : Int64) (x : Int32) (hno : pWi x (nI 0) (nI 19) = false) : RWi l yX8_teach wsX8_teach 6 0 0 G T sz (oX8 T q Z g) [.ref (q 0), .int x] (nI 0) (oX8 T q (sc Z 0 (nI 1)) g) := by
  refine Met.ofW (cc := cX8_teach) (maxL := 2) (ret := (some .int)) (by decide) rfl ?_
  intro p e s m args below meth c s₁ B hml hv
  obtain ⟨ha, hsz, hP, hK, hD0, hE0⟩ := hv
  have hx := B.exec
  have hb := B.bytes
  have hr := B.returns
  have hlocks := B.notSynchronized
  have hts := atoms_spec (ws := wsX8_teach) B.pre
  have hown : s.vm.findClass RX8 = some m.cls := findClass_of_methodNamed B.named
  have cx : CallFix p m c cX8_teach 2 s args wsX8_teach RX8 := ⟨hx, hb, hml, hown, hts⟩
  subst hsz
  have hD := hD0.self (sz := s.heap.size)
  generalize hAe : va_A (oX8 T q Z g) s.heap.size = A at hD hE0 ⊢
  have hE : gE A s s.heap := hE0
  have hA : ∀ q : Nat, s.heap.size ≤ q → A q := fun q h => by rw [← hAe]; exact Or.inr h
  have hS : va_S A s.heap s.heap [] := va_S.rf
  refine w_entry ha (Nat.le_of_ble_eq_true rfl) (fun ls hl => ?_)
  refine w_q (fun Q0 hQ => ?_)
  have lk28 := hts (.fieldLink RX8 28 "WhistleTunesModel" "thrown" "I") (by decide +kernel)
  have hinX8 : ∀ w ∈ wsX80, w ∈ wsX8_teach := by decide +kernel
  have hl : lv_has ls 2 [(0, .ref (q 0)), (1, .int x)] := hl
  have hP : va_P G vwCl [(q 0, .inr (8, [.int (Z 0 0), .ref (q 2), .ref (q 3), .int (Z 0 3), .ref (q 5), .int (Z 0 5), .ref (q 7), .int (Z 0 7), .int (Z 0 8), .int (Z 0 9), .int (Z 0 10), .int (Z 0 11), .ref (q 13), .int (Z 0 13), .ref (q 15), .long g])), (q 2, .inl (T 0, 267, .inl (Z 2))), (q 3, .inl (T 0, 1602, .inl (Z 3))), (q 5, .inl (T 0, 267, .inl (Z 5))), (q 7, .inl (T 0, 60, .inl (Z 7))), (q 13, .inl (T 0, 8, .inl (Z 13))), (q 15, .inl (T 0, 3, .inl (Z 15)))] s.heap := hP
  have hD : va_D A [(q 0, .inr (8, [.int (Z 0 0), .ref (q 2), .ref (q 3), .int (Z 0 3), .ref (q 5), .int (Z 0 5), .ref (q 7), .int (Z 0 7), .int (Z 0 8), .int (Z 0 9), .int (Z 0 10), .int (Z 0 11), .ref (q 13), .int (Z 0 13), .ref (q 15), .long g])), (q 2, .inl (T 0, 267, .inl (Z 2))), (q 3, .inl (T 0, 1602, .inl (Z 3))), (q 5, .inl (T 0, 267, .inl (Z 5))), (q 7, .inl (T 0, 60, .inl (Z 7))), (q 13, .inl (T 0, 8, .inl (Z 13))), (q 15, .inl (T 0, 3, .inl (Z 15)))] := hD
  skip
  refine w_h (fun H locs hHe hLe => ?_)
  have hP : va_P G vwCl [(q 0, .inr (8, [.int (Z 0 0), .ref (q 2), .ref (q 3), .int (Z 0 3), .ref (q 5), .int (Z 0 5), .ref (q 7), .int (Z 0 7), .int (Z 0 8), .int (Z 0 9), .int (Z 0 10), .int (Z 0 11), .ref (q 13), .int (Z 0 13), .ref (q 15), .long g])), (q 2, .inl (T 0, 267, .inl (Z 2))), (q 3, .inl (T 0, 1602, .inl (Z 3))), (q 5, .inl (T 0, 267, .inl (Z 5))), (q 7, .inl (T 0, 60, .inl (Z 7))), (q 13, .inl (T 0, 8, .inl (Z 13))), (q 15, .inl (T 0, 3, .inl (Z 15)))] H := by rw [hHe]; exact hP
  have hS : va_S A s.heap H locs := by rw [hHe, hLe]; exact hS
  refine lv_aload_n hx hb dX8_teach_0 rfl (lv_at hl 0 rfl) ?_
  refine n_iconst hx hb 0 dX8_teach_1 (by decide) ?_
  refine va_put (D := G) (ci := 8) (v := .int (nI 0)) (ty := .int) (C := RX8) (T := TX8) (N := 16) hx hb hts hinX8 tyX8 tyX8_ok nmX8 hown hK hP hD hS 0 rfl rfl 0 (by decide) lk28 (fun _ h9 => h9) rfl (by decide +kernel) rfl rfl (Nat.le_of_ble_eq_true rfl) dX8_teach_2 (fun H locs hP hD hS => ?_)
  have hP : va_P G vwCl [(q 0, .inr (8, [.int (nI 0), .ref (q 2), .ref (q 3), .int (Z 0 3), .ref (q 5), .int (Z 0 5), .ref (q 7), .int (Z 0 7), .int (Z 0 8), .int (Z 0 9), .int (Z 0 10), .int (Z 0 11), .ref (q 13), .int (Z 0 13), .ref (q 15), .long g])), (q 2, .inl (T 0, 267, .inl (Z 2))), (q 3, .inl (T 0, 1602, .inl (Z 3))), (q 5, .inl (T 0, 267, .inl (Z 5))), (q 7, .inl (T 0, 60, .inl (Z 7))), (q 13, .inl (T 0, 8, .inl (Z 13))), (q 15, .inl (T 0, 3, .inl (Z 15)))] H := hP
  have hD : va_D A [(q 0, .inr (8, [.int (nI 0), .ref (q 2), .ref (q 3), .int (Z 0 3), .ref (q 5), .int (Z 0 5), .ref (q 7), .int (Z 0 7), .int (Z 0 8), .int (Z 0 9), .int (Z 0 10), .int (Z 0 11), .ref (q 13), .int (Z 0 13), .ref (q 15), .long g])), (q 2, .inl (T 0, 267, .inl (Z 2))), (q 3, .inl (T 0, 1602, .inl (Z 3))), (q 5, .inl (T 0, 267, .inl (Z 5))), (q 7, .inl (T 0, 60, .inl (Z 7))), (q 13, .inl (T 0, 8, .inl (Z 13))), (q 15, .inl (T 0, 3, .inl (Z 15)))] := hD
  refine lv_iload_n hx hb dX8_teach_5 rfl (lv_at hl 1 rfl) ?_
  refine k_roS (As := [.int x]) (rest := []) (wc := []) (d := 1) (v := bI (pWi x (nI 0) (nI 19))) cx (c_X8_isMessage l G T A x ) (va_cwS 1 hts gX8_teach_X8_isMessage rfl rfl rfl (by decide +kernel) ⟨Nat.le_of_ble_eq_true rfl, Nat.le_of_ble_eq_true rfl⟩) (hP.sub (ws' := []) [] rfl) hK (hE.kept hS.2.1) rfl hl.1 rfl (Nat.le_of_ble_eq_true rfl) dX8_teach_6 ⟨Nat.le_of_ble_eq_true rfl, Nat.le_of_ble_eq_true rfl⟩ ?_
  refine b_if_ne (b := pWi x (nI 0) (nI 19)) (tgt := 18) hx hb dX8_teach_9 (by decide) (fun c_1 => by exfalso; rw [hno] at c_1; cases c_1) (fun c_2 => ?_)
  refine lv_aload_n hx hb dX8_teach_12 rfl (lv_at hl 0 rfl) ?_
  refine n_iconst hx hb 1 dX8_teach_13 (by decide) ?_
  refine k_rwV (As := [.int (nI 1)]) (rest := []) (wc := oX8 T q (sc Z 0 (nI 0)) g) (wr := []) (w1 := oX8 T q (sc (sc Z 0 (nI 0)) 0 (nI 1)) g) (d := 0) (mc := 0) (ms := 0) (v := nI 0) (isC := [0, 1, 2, 3, 4, 5, 6]) (isR := []) cx (c_X8_fails l G T H.size q (sc Z 0 (nI 0)) g (nI 1) ) (cwV 1 hts gX8_teach_X8_fails rfl rfl rfl (by decide +kernel) ⟨Nat.le_of_ble_eq_true rfl, Nat.le_of_ble_eq_true rfl⟩) ⟨hP, hD, hS, hA, hE, hK, rfl, rfl, rfl, rfl, by decide⟩ (va_recv hK hP (ci := 8) (q0 := 0) rfl rfl) rfl hl.1 rfl (Nat.le_of_ble_eq_true rfl) dX8_teach_14 ⟨Nat.le_of_ble_eq_true rfl, Nat.le_of_ble_eq_true rfl⟩ (fun H locs hP hD hS hz => ?_)
  have hP : va_P G vwCl [(q 0, .inr (8, [.int (nI 1), .ref (q 2), .ref (q 3), .int (Z 0 3), .ref (q 5), .int (Z 0 5), .ref (q 7), .int (Z 0 7), .int (Z 0 8), .int (Z 0 9), .int (Z 0 10), .int (Z 0 11), .ref (q 13), .int (Z 0 13), .ref (q 15), .long g])), (q 2, .inl (T 0, 267, .inl (Z 2))), (q 3, .inl (T 0, 1602, .inl (Z 3))), (q 5, .inl (T 0, 267, .inl (Z 5))), (q 7, .inl (T 0, 60, .inl (Z 7))), (q 13, .inl (T 0, 8, .inl (Z 13))), (q 15, .inl (T 0, 3, .inl (Z 15)))] H := hP
  have hD : va_D A [(q 0, .inr (8, [.int (nI 1), .ref (q 2), .ref (q 3), .int (Z 0 3), .ref (q 5), .int (Z 0 5), .ref (q 7), .int (Z 0 7), .int (Z 0 8), .int (Z 0 9), .int (Z 0 10), .int (Z 0 11), .ref (q 13), .int (Z 0 13), .ref (q 15), .long g])), (q 2, .inl (T 0, 267, .inl (Z 2))), (q 3, .inl (T 0, 1602, .inl (Z 3))), (q 5, .inl (T 0, 267, .inl (Z 5))), (q 7, .inl (T 0, 60, .inl (Z 7))), (q 13, .inl (T 0, 8, .inl (Z 13))), (q 15, .inl (T 0, 3, .inl (Z 15)))] := hD
  subst hQ
  have e_3 : (nI 1) = nI 1 := (by first | rfl | simp [bI, c_2])
  rw [e_3] at hP hD
  have hP9 : va_P G vwCl (oX8 T q (sc Z 0 (nI 1)) g) H := hP
  have hD9 : va_D A (oX8 T q (sc Z 0 (nI 1)) g) := hD
  exact e_rwi hx hb hr hlocks hS (by first | rfl | simp [bI, c_2]) hP9 hD9 dX8_teach_17
set_option maxHeartbeats 4000000 in
set_option maxRecDepth 100000 in
theorem c_X8_forget_1 (l : Launch) (G : va_G) (T : Nat → ClassId) (sz : Nat) (q : Nat → Nat) (Z : Nat → Nat → Int32) (g : Int64) (x : Int32) (hno : pWi x (nI 0) (nI 19) = false) : RWi l yX8_forget wsX8_forget 6 0 0 G T sz (oX8 T q Z g) [.ref (q 0), .int x] (nI 0) (oX8 T q (sc Z 0 (nI 1)) g) := by
  refine Met.ofW (cc := cX8_forget) (maxL := 3) (ret := (some .int)) (by decide) rfl ?_
  intro p e s m args below meth c s₁ B hml hv
  obtain ⟨ha, hsz, hP, hK, hD0, hE0⟩ := hv
  have hx := B.exec
  have hb := B.bytes
  have hr := B.returns
  have hlocks := B.notSynchronized
  have hts := atoms_spec (ws := wsX8_forget) B.pre
  have hown : s.vm.findClass RX8 = some m.cls := findClass_of_methodNamed B.named
  have cx : CallFix p m c cX8_forget 3 s args wsX8_forget RX8 := ⟨hx, hb, hml, hown, hts⟩
  subst hsz
  have hD := hD0.self (sz := s.heap.size)
  generalize hAe : va_A (oX8 T q Z g) s.heap.size = A at hD hE0 ⊢
  have hE : gE A s s.heap := hE0
  have hA : ∀ q : Nat, s.heap.size ≤ q → A q := fun q h => by rw [← hAe]; exact Or.inr h
  have hS : va_S A s.heap s.heap [] := va_S.rf
  refine w_entry ha (Nat.le_of_ble_eq_true rfl) (fun ls hl => ?_)
  refine w_q (fun Q0 hQ => ?_)
  have lk28 := hts (.fieldLink RX8 28 "WhistleTunesModel" "thrown" "I") (by decide +kernel)
  have hinX8 : ∀ w ∈ wsX80, w ∈ wsX8_forget := by decide +kernel
  have hl : lv_has ls 3 [(0, .ref (q 0)), (1, .int x)] := hl
  have hP : va_P G vwCl [(q 0, .inr (8, [.int (Z 0 0), .ref (q 2), .ref (q 3), .int (Z 0 3), .ref (q 5), .int (Z 0 5), .ref (q 7), .int (Z 0 7), .int (Z 0 8), .int (Z 0 9), .int (Z 0 10), .int (Z 0 11), .ref (q 13), .int (Z 0 13), .ref (q 15), .long g])), (q 2, .inl (T 0, 267, .inl (Z 2))), (q 3, .inl (T 0, 1602, .inl (Z 3))), (q 5, .inl (T 0, 267, .inl (Z 5))), (q 7, .inl (T 0, 60, .inl (Z 7))), (q 13, .inl (T 0, 8, .inl (Z 13))), (q 15, .inl (T 0, 3, .inl (Z 15)))] s.heap := hP
  have hD : va_D A [(q 0, .inr (8, [.int (Z 0 0), .ref (q 2), .ref (q 3), .int (Z 0 3), .ref (q 5), .int (Z 0 5), .ref (q 7), .int (Z 0 7), .int (Z 0 8), .int (Z 0 9), .int (Z 0 10), .int (Z 0 11), .ref (q 13), .int (Z 0 13), .ref (q 15), .long g])), (q 2, .inl (T 0, 267, .inl (Z 2))), (q 3, .inl (T 0, 1602, .inl (Z 3))), (q 5, .inl (T 0, 267, .inl (Z 5))), (q 7, .inl (T 0, 60, .inl (Z 7))), (q 13, .inl (T 0, 8, .inl (Z 13))), (q 15, .inl (T 0, 3, .inl (Z 15)))] := hD
  skip
  refine w_h (fun H locs hHe hLe => ?_)
  have hP : va_P G vwCl [(q 0, .inr (8, [.int (Z 0 0), .ref (q 2), .ref (q 3), .int (Z 0 3), .ref (q 5), .int (Z 0 5), .ref (q 7), .int (Z 0 7), .int (Z 0 8), .int (Z 0 9), .int (Z 0 10), .int (Z 0 11), .ref (q 13), .int (Z 0 13), .ref (q 15), .long g])), (q 2, .inl (T 0, 267, .inl (Z 2))), (q 3, .inl (T 0, 1602, .inl (Z 3))), (q 5, .inl (T 0, 267, .inl (Z 5))), (q 7, .inl (T 0, 60, .inl (Z 7))), (q 13, .inl (T 0, 8, .inl (Z 13))), (q 15, .inl (T 0, 3, .inl (Z 15)))] H := by rw [hHe]; exact hP
  have hS : va_S A s.heap H locs := by rw [hHe, hLe]; exact hS
  refine lv_aload_n hx hb dX8_forget_0 rfl (lv_at hl 0 rfl) ?_
  refine n_iconst hx hb 0 dX8_forget_1 (by decide) ?_
  refine va_put (D := G) (ci := 8) (v := .int (nI 0)) (ty := .int) (C := RX8) (T := TX8) (N := 16) hx hb hts hinX8 tyX8 tyX8_ok nmX8 hown hK hP hD hS 0 rfl rfl 0 (by decide) lk28 (fun _ h9 => h9) rfl (by decide +kernel) rfl rfl (Nat.le_of_ble_eq_true rfl) dX8_forget_2 (fun H locs hP hD hS => ?_)
  have hP : va_P G vwCl [(q 0, .inr (8, [.int (nI 0), .ref (q 2), .ref (q 3), .int (Z 0 3), .ref (q 5), .int (Z 0 5), .ref (q 7), .int (Z 0 7), .int (Z 0 8), .int (Z 0 9), .int (Z 0 10), .int (Z 0 11), .ref (q 13), .int (Z 0 13), .ref (q 15), .long g])), (q 2, .inl (T 0, 267, .inl (Z 2))), (q 3, .inl (T 0, 1602, .inl (Z 3))), (q 5, .inl (T 0, 267, .inl (Z 5))), (q 7, .inl (T 0, 60, .inl (Z 7))), (q 13, .inl (T 0, 8, .inl (Z 13))), (q 15, .inl (T 0, 3, .inl (Z 15)))] H := hP
  have hD : va_D A [(q 0, .inr (8, [.int (nI 0), .ref (q 2), .ref (q 3), .int (Z 0 3), .ref (q 5), .int (Z 0 5), .ref (q 7), .int (Z 0 7), .int (Z 0 8), .int (Z 0 9), .int (Z 0 10), .int (Z 0 11), .ref (q 13), .int (Z 0 13), .ref (q 15), .long g])), (q 2, .inl (T 0, 267, .inl (Z 2))), (q 3, .inl (T 0, 1602, .inl (Z 3))), (q 5, .inl (T 0, 267, .inl (Z 5))), (q 7, .inl (T 0, 60, .inl (Z 7))), (q 13, .inl (T 0, 8, .inl (Z 13))), (q 15, .inl (T 0, 3, .inl (Z 15)))] := hD
  refine lv_iload_n hx hb dX8_forget_5 rfl (lv_at hl 1 rfl) ?_
  refine k_roS (As := [.int x]) (rest := []) (wc := []) (d := 1) (v := bI (pWi x (nI 0) (nI 19))) cx (c_X8_isMessage l G T A x ) (va_cwS 1 hts gX8_forget_X8_isMessage rfl rfl rfl (by decide +kernel) ⟨Nat.le_of_ble_eq_true rfl, Nat.le_of_ble_eq_true rfl⟩) (hP.sub (ws' := []) [] rfl) hK (hE.kept hS.2.1) rfl hl.1 rfl (Nat.le_of_ble_eq_true rfl) dX8_forget_6 ⟨Nat.le_of_ble_eq_true rfl, Nat.le_of_ble_eq_true rfl⟩ ?_
  refine b_if_ne (b := pWi x (nI 0) (nI 19)) (tgt := 18) hx hb dX8_forget_9 (by decide) (fun c_1 => by exfalso; rw [hno] at c_1; cases c_1) (fun c_2 => ?_)
  refine lv_aload_n hx hb dX8_forget_12 rfl (lv_at hl 0 rfl) ?_
  refine n_iconst hx hb 1 dX8_forget_13 (by decide) ?_
  refine k_rwV (As := [.int (nI 1)]) (rest := []) (wc := oX8 T q (sc Z 0 (nI 0)) g) (wr := []) (w1 := oX8 T q (sc (sc Z 0 (nI 0)) 0 (nI 1)) g) (d := 0) (mc := 0) (ms := 0) (v := nI 0) (isC := [0, 1, 2, 3, 4, 5, 6]) (isR := []) cx (c_X8_fails l G T H.size q (sc Z 0 (nI 0)) g (nI 1) ) (cwV 1 hts gX8_forget_X8_fails rfl rfl rfl (by decide +kernel) ⟨Nat.le_of_ble_eq_true rfl, Nat.le_of_ble_eq_true rfl⟩) ⟨hP, hD, hS, hA, hE, hK, rfl, rfl, rfl, rfl, by decide⟩ (va_recv hK hP (ci := 8) (q0 := 0) rfl rfl) rfl hl.1 rfl (Nat.le_of_ble_eq_true rfl) dX8_forget_14 ⟨Nat.le_of_ble_eq_true rfl, Nat.le_of_ble_eq_true rfl⟩ (fun H locs hP hD hS hz => ?_)
  have hP : va_P G vwCl [(q 0, .inr (8, [.int (nI 1), .ref (q 2), .ref (q 3), .int (Z 0 3), .ref (q 5), .int (Z 0 5), .ref (q 7), .int (Z 0 7), .int (Z 0 8), .int (Z 0 9), .int (Z 0 10), .int (Z 0 11), .ref (q 13), .int (Z 0 13), .ref (q 15), .long g])), (q 2, .inl (T 0, 267, .inl (Z 2))), (q 3, .inl (T 0, 1602, .inl (Z 3))), (q 5, .inl (T 0, 267, .inl (Z 5))), (q 7, .inl (T 0, 60, .inl (Z 7))), (q 13, .inl (T 0, 8, .inl (Z 13))), (q 15, .inl (T 0, 3, .inl (Z 15)))] H := hP
  have hD : va_D A [(q 0, .inr (8, [.int (nI 1), .ref (q 2), .ref (q 3), .int (Z 0 3), .ref (q 5), .int (Z 0 5), .ref (q 7), .int (Z 0 7), .int (Z 0 8), .int (Z 0 9), .int (Z 0 10), .int (Z 0 11), .ref (q 13), .int (Z 0 13), .ref (q 15), .long g])), (q 2, .inl (T 0, 267, .inl (Z 2))), (q 3, .inl (T 0, 1602, .inl (Z 3))), (q 5, .inl (T 0, 267, .inl (Z 5))), (q 7, .inl (T 0, 60, .inl (Z 7))), (q 13, .inl (T 0, 8, .inl (Z 13))), (q 15, .inl (T 0, 3, .inl (Z 15)))] := hD
  subst hQ
  have e_3 : (nI 1) = nI 1 := (by first | rfl | simp [bI, c_2])
  rw [e_3] at hP hD
  have hP9 : va_P G vwCl (oX8 T q (sc Z 0 (nI 1)) g) H := hP
  have hD9 : va_D A (oX8 T q (sc Z 0 (nI 1)) g) := hD
  exact e_rwi hx hb hr hlocks hS (by first | rfl | simp [bI, c_2]) hP9 hD9 dX8_forget_17
set_option maxHeartbeats 4000000 in
set_option maxRecDepth 100000 in
theorem c_X8_key_1 (l : Launch) (G : va_G) (T : Nat → ClassId) (sz : Nat) (q : Nat → Nat) (Z : Nat → Nat → Int32) (g : Int64) (x : Int32) (hno : pWi x (nI 0) (nI 6) = false) : RWi l yX8_key wsX8_key 6 0 0 G T sz (oX8 T q Z g) [.ref (q 0), .int x] (nI 0) (oX8 T q (sc Z 0 (nI 1)) g) := by
  refine Met.ofW (cc := cX8_key) (maxL := 2) (ret := (some .int)) (by decide) rfl ?_
  intro p e s m args below meth c s₁ B hml hv
  obtain ⟨ha, hsz, hP, hK, hD0, hE0⟩ := hv
  have hx := B.exec
  have hb := B.bytes
  have hr := B.returns
  have hlocks := B.notSynchronized
  have hts := atoms_spec (ws := wsX8_key) B.pre
  have hown : s.vm.findClass RX8 = some m.cls := findClass_of_methodNamed B.named
  have cx : CallFix p m c cX8_key 2 s args wsX8_key RX8 := ⟨hx, hb, hml, hown, hts⟩
  subst hsz
  have hD := hD0.self (sz := s.heap.size)
  generalize hAe : va_A (oX8 T q Z g) s.heap.size = A at hD hE0 ⊢
  have hE : gE A s s.heap := hE0
  have hA : ∀ q : Nat, s.heap.size ≤ q → A q := fun q h => by rw [← hAe]; exact Or.inr h
  have hS : va_S A s.heap s.heap [] := va_S.rf
  refine w_entry ha (Nat.le_of_ble_eq_true rfl) (fun ls hl => ?_)
  refine w_q (fun Q0 hQ => ?_)
  have lk28 := hts (.fieldLink RX8 28 "WhistleTunesModel" "thrown" "I") (by decide +kernel)
  have hinX8 : ∀ w ∈ wsX80, w ∈ wsX8_key := by decide +kernel
  have hl : lv_has ls 2 [(0, .ref (q 0)), (1, .int x)] := hl
  have hP : va_P G vwCl [(q 0, .inr (8, [.int (Z 0 0), .ref (q 2), .ref (q 3), .int (Z 0 3), .ref (q 5), .int (Z 0 5), .ref (q 7), .int (Z 0 7), .int (Z 0 8), .int (Z 0 9), .int (Z 0 10), .int (Z 0 11), .ref (q 13), .int (Z 0 13), .ref (q 15), .long g])), (q 2, .inl (T 0, 267, .inl (Z 2))), (q 3, .inl (T 0, 1602, .inl (Z 3))), (q 5, .inl (T 0, 267, .inl (Z 5))), (q 7, .inl (T 0, 60, .inl (Z 7))), (q 13, .inl (T 0, 8, .inl (Z 13))), (q 15, .inl (T 0, 3, .inl (Z 15)))] s.heap := hP
  have hD : va_D A [(q 0, .inr (8, [.int (Z 0 0), .ref (q 2), .ref (q 3), .int (Z 0 3), .ref (q 5), .int (Z 0 5), .ref (q 7), .int (Z 0 7), .int (Z 0 8), .int (Z 0 9), .int (Z 0 10), .int (Z 0 11), .ref (q 13), .int (Z 0 13), .ref (q 15), .long g])), (q 2, .inl (T 0, 267, .inl (Z 2))), (q 3, .inl (T 0, 1602, .inl (Z 3))), (q 5, .inl (T 0, 267, .inl (Z 5))), (q 7, .inl (T 0, 60, .inl (Z 7))), (q 13, .inl (T 0, 8, .inl (Z 13))), (q 15, .inl (T 0, 3, .inl (Z 15)))] := hD
  skip
  refine w_h (fun H locs hHe hLe => ?_)
  have hP : va_P G vwCl [(q 0, .inr (8, [.int (Z 0 0), .ref (q 2), .ref (q 3), .int (Z 0 3), .ref (q 5), .int (Z 0 5), .ref (q 7), .int (Z 0 7), .int (Z 0 8), .int (Z 0 9), .int (Z 0 10), .int (Z 0 11), .ref (q 13), .int (Z 0 13), .ref (q 15), .long g])), (q 2, .inl (T 0, 267, .inl (Z 2))), (q 3, .inl (T 0, 1602, .inl (Z 3))), (q 5, .inl (T 0, 267, .inl (Z 5))), (q 7, .inl (T 0, 60, .inl (Z 7))), (q 13, .inl (T 0, 8, .inl (Z 13))), (q 15, .inl (T 0, 3, .inl (Z 15)))] H := by rw [hHe]; exact hP
  have hS : va_S A s.heap H locs := by rw [hHe, hLe]; exact hS
  refine lv_aload_n hx hb dX8_key_0 rfl (lv_at hl 0 rfl) ?_
  refine n_iconst hx hb 0 dX8_key_1 (by decide) ?_
  refine va_put (D := G) (ci := 8) (v := .int (nI 0)) (ty := .int) (C := RX8) (T := TX8) (N := 16) hx hb hts hinX8 tyX8 tyX8_ok nmX8 hown hK hP hD hS 0 rfl rfl 0 (by decide) lk28 (fun _ h9 => h9) rfl (by decide +kernel) rfl rfl (Nat.le_of_ble_eq_true rfl) dX8_key_2 (fun H locs hP hD hS => ?_)
  have hP : va_P G vwCl [(q 0, .inr (8, [.int (nI 0), .ref (q 2), .ref (q 3), .int (Z 0 3), .ref (q 5), .int (Z 0 5), .ref (q 7), .int (Z 0 7), .int (Z 0 8), .int (Z 0 9), .int (Z 0 10), .int (Z 0 11), .ref (q 13), .int (Z 0 13), .ref (q 15), .long g])), (q 2, .inl (T 0, 267, .inl (Z 2))), (q 3, .inl (T 0, 1602, .inl (Z 3))), (q 5, .inl (T 0, 267, .inl (Z 5))), (q 7, .inl (T 0, 60, .inl (Z 7))), (q 13, .inl (T 0, 8, .inl (Z 13))), (q 15, .inl (T 0, 3, .inl (Z 15)))] H := hP
  have hD : va_D A [(q 0, .inr (8, [.int (nI 0), .ref (q 2), .ref (q 3), .int (Z 0 3), .ref (q 5), .int (Z 0 5), .ref (q 7), .int (Z 0 7), .int (Z 0 8), .int (Z 0 9), .int (Z 0 10), .int (Z 0 11), .ref (q 13), .int (Z 0 13), .ref (q 15), .long g])), (q 2, .inl (T 0, 267, .inl (Z 2))), (q 3, .inl (T 0, 1602, .inl (Z 3))), (q 5, .inl (T 0, 267, .inl (Z 5))), (q 7, .inl (T 0, 60, .inl (Z 7))), (q 13, .inl (T 0, 8, .inl (Z 13))), (q 15, .inl (T 0, 3, .inl (Z 15)))] := hD
  refine lv_iload_n hx hb dX8_key_5 rfl (lv_at hl 1 rfl) ?_
  refine k_roS (As := [.int x]) (rest := []) (wc := []) (d := 1) (v := bI (pWi x (nI 0) (nI 6))) cx (c_X8_isKey l G T A x ) (va_cwS 1 hts gX8_key_X8_isKey rfl rfl rfl (by decide +kernel) ⟨Nat.le_of_ble_eq_true rfl, Nat.le_of_ble_eq_true rfl⟩) (hP.sub (ws' := []) [] rfl) hK (hE.kept hS.2.1) rfl hl.1 rfl (Nat.le_of_ble_eq_true rfl) dX8_key_6 ⟨Nat.le_of_ble_eq_true rfl, Nat.le_of_ble_eq_true rfl⟩ ?_
  refine b_if_ne (b := pWi x (nI 0) (nI 6)) (tgt := 18) hx hb dX8_key_9 (by decide) (fun c_1 => by exfalso; rw [hno] at c_1; cases c_1) (fun c_2 => ?_)
  refine lv_aload_n hx hb dX8_key_12 rfl (lv_at hl 0 rfl) ?_
  refine n_iconst hx hb 1 dX8_key_13 (by decide) ?_
  refine k_rwV (As := [.int (nI 1)]) (rest := []) (wc := oX8 T q (sc Z 0 (nI 0)) g) (wr := []) (w1 := oX8 T q (sc (sc Z 0 (nI 0)) 0 (nI 1)) g) (d := 0) (mc := 0) (ms := 0) (v := nI 0) (isC := [0, 1, 2, 3, 4, 5, 6]) (isR := []) cx (c_X8_fails l G T H.size q (sc Z 0 (nI 0)) g (nI 1) ) (cwV 1 hts gX8_key_X8_fails rfl rfl rfl (by decide +kernel) ⟨Nat.le_of_ble_eq_true rfl, Nat.le_of_ble_eq_true rfl⟩) ⟨hP, hD, hS, hA, hE, hK, rfl, rfl, rfl, rfl, by decide⟩ (va_recv hK hP (ci := 8) (q0 := 0) rfl rfl) rfl hl.1 rfl (Nat.le_of_ble_eq_true rfl) dX8_key_14 ⟨Nat.le_of_ble_eq_true rfl, Nat.le_of_ble_eq_true rfl⟩ (fun H locs hP hD hS hz => ?_)
  have hP : va_P G vwCl [(q 0, .inr (8, [.int (nI 1), .ref (q 2), .ref (q 3), .int (Z 0 3), .ref (q 5), .int (Z 0 5), .ref (q 7), .int (Z 0 7), .int (Z 0 8), .int (Z 0 9), .int (Z 0 10), .int (Z 0 11), .ref (q 13), .int (Z 0 13), .ref (q 15), .long g])), (q 2, .inl (T 0, 267, .inl (Z 2))), (q 3, .inl (T 0, 1602, .inl (Z 3))), (q 5, .inl (T 0, 267, .inl (Z 5))), (q 7, .inl (T 0, 60, .inl (Z 7))), (q 13, .inl (T 0, 8, .inl (Z 13))), (q 15, .inl (T 0, 3, .inl (Z 15)))] H := hP
  have hD : va_D A [(q 0, .inr (8, [.int (nI 1), .ref (q 2), .ref (q 3), .int (Z 0 3), .ref (q 5), .int (Z 0 5), .ref (q 7), .int (Z 0 7), .int (Z 0 8), .int (Z 0 9), .int (Z 0 10), .int (Z 0 11), .ref (q 13), .int (Z 0 13), .ref (q 15), .long g])), (q 2, .inl (T 0, 267, .inl (Z 2))), (q 3, .inl (T 0, 1602, .inl (Z 3))), (q 5, .inl (T 0, 267, .inl (Z 5))), (q 7, .inl (T 0, 60, .inl (Z 7))), (q 13, .inl (T 0, 8, .inl (Z 13))), (q 15, .inl (T 0, 3, .inl (Z 15)))] := hD
  subst hQ
  have e_3 : (nI 1) = nI 1 := (by first | rfl | simp [bI, c_2])
  rw [e_3] at hP hD
  have hP9 : va_P G vwCl (oX8 T q (sc Z 0 (nI 1)) g) H := hP
  have hD9 : va_D A (oX8 T q (sc Z 0 (nI 1)) g) := hD
  exact e_rwi hx hb hr hlocks hS (by first | rfl | simp [bI, c_2]) hP9 hD9 dX8_key_17
set_option maxHeartbeats 4000000 in
set_option maxRecDepth 100000 in
theorem c_X8_tell_1 (l : Launch) (G : va_G) (T : Nat → ClassId) (sz : Nat) (q : Nat → Nat) (Z : Nat → Nat → Int32) (g : Int64) (x : Int32) (hno : pWi x (nI 0) (nI 5) = false) : RWi l yX8_tell wsX8_tell 6 0 0 G T sz (oX8 T q Z g) [.ref (q 0), .int x] (nI 0) (oX8 T q (sc Z 0 (nI 1)) g) := by
  refine Met.ofW (cc := cX8_tell) (maxL := 2) (ret := (some .int)) (by decide) rfl ?_
  intro p e s m args below meth c s₁ B hml hv
  obtain ⟨ha, hsz, hP, hK, hD0, hE0⟩ := hv
  have hx := B.exec
  have hb := B.bytes
  have hr := B.returns
  have hlocks := B.notSynchronized
  have hts := atoms_spec (ws := wsX8_tell) B.pre
  have hown : s.vm.findClass RX8 = some m.cls := findClass_of_methodNamed B.named
  have cx : CallFix p m c cX8_tell 2 s args wsX8_tell RX8 := ⟨hx, hb, hml, hown, hts⟩
  subst hsz
  have hD := hD0.self (sz := s.heap.size)
  generalize hAe : va_A (oX8 T q Z g) s.heap.size = A at hD hE0 ⊢
  have hE : gE A s s.heap := hE0
  have hA : ∀ q : Nat, s.heap.size ≤ q → A q := fun q h => by rw [← hAe]; exact Or.inr h
  have hS : va_S A s.heap s.heap [] := va_S.rf
  refine w_entry ha (Nat.le_of_ble_eq_true rfl) (fun ls hl => ?_)
  refine w_q (fun Q0 hQ => ?_)
  have lk28 := hts (.fieldLink RX8 28 "WhistleTunesModel" "thrown" "I") (by decide +kernel)
  have hinX8 : ∀ w ∈ wsX80, w ∈ wsX8_tell := by decide +kernel
  have hl : lv_has ls 2 [(0, .ref (q 0)), (1, .int x)] := hl
  have hP : va_P G vwCl [(q 0, .inr (8, [.int (Z 0 0), .ref (q 2), .ref (q 3), .int (Z 0 3), .ref (q 5), .int (Z 0 5), .ref (q 7), .int (Z 0 7), .int (Z 0 8), .int (Z 0 9), .int (Z 0 10), .int (Z 0 11), .ref (q 13), .int (Z 0 13), .ref (q 15), .long g])), (q 2, .inl (T 0, 267, .inl (Z 2))), (q 3, .inl (T 0, 1602, .inl (Z 3))), (q 5, .inl (T 0, 267, .inl (Z 5))), (q 7, .inl (T 0, 60, .inl (Z 7))), (q 13, .inl (T 0, 8, .inl (Z 13))), (q 15, .inl (T 0, 3, .inl (Z 15)))] s.heap := hP
  have hD : va_D A [(q 0, .inr (8, [.int (Z 0 0), .ref (q 2), .ref (q 3), .int (Z 0 3), .ref (q 5), .int (Z 0 5), .ref (q 7), .int (Z 0 7), .int (Z 0 8), .int (Z 0 9), .int (Z 0 10), .int (Z 0 11), .ref (q 13), .int (Z 0 13), .ref (q 15), .long g])), (q 2, .inl (T 0, 267, .inl (Z 2))), (q 3, .inl (T 0, 1602, .inl (Z 3))), (q 5, .inl (T 0, 267, .inl (Z 5))), (q 7, .inl (T 0, 60, .inl (Z 7))), (q 13, .inl (T 0, 8, .inl (Z 13))), (q 15, .inl (T 0, 3, .inl (Z 15)))] := hD
  skip
  refine w_h (fun H locs hHe hLe => ?_)
  have hP : va_P G vwCl [(q 0, .inr (8, [.int (Z 0 0), .ref (q 2), .ref (q 3), .int (Z 0 3), .ref (q 5), .int (Z 0 5), .ref (q 7), .int (Z 0 7), .int (Z 0 8), .int (Z 0 9), .int (Z 0 10), .int (Z 0 11), .ref (q 13), .int (Z 0 13), .ref (q 15), .long g])), (q 2, .inl (T 0, 267, .inl (Z 2))), (q 3, .inl (T 0, 1602, .inl (Z 3))), (q 5, .inl (T 0, 267, .inl (Z 5))), (q 7, .inl (T 0, 60, .inl (Z 7))), (q 13, .inl (T 0, 8, .inl (Z 13))), (q 15, .inl (T 0, 3, .inl (Z 15)))] H := by rw [hHe]; exact hP
  have hS : va_S A s.heap H locs := by rw [hHe, hLe]; exact hS
  refine lv_aload_n hx hb dX8_tell_0 rfl (lv_at hl 0 rfl) ?_
  refine n_iconst hx hb 0 dX8_tell_1 (by decide) ?_
  refine va_put (D := G) (ci := 8) (v := .int (nI 0)) (ty := .int) (C := RX8) (T := TX8) (N := 16) hx hb hts hinX8 tyX8 tyX8_ok nmX8 hown hK hP hD hS 0 rfl rfl 0 (by decide) lk28 (fun _ h9 => h9) rfl (by decide +kernel) rfl rfl (Nat.le_of_ble_eq_true rfl) dX8_tell_2 (fun H locs hP hD hS => ?_)
  have hP : va_P G vwCl [(q 0, .inr (8, [.int (nI 0), .ref (q 2), .ref (q 3), .int (Z 0 3), .ref (q 5), .int (Z 0 5), .ref (q 7), .int (Z 0 7), .int (Z 0 8), .int (Z 0 9), .int (Z 0 10), .int (Z 0 11), .ref (q 13), .int (Z 0 13), .ref (q 15), .long g])), (q 2, .inl (T 0, 267, .inl (Z 2))), (q 3, .inl (T 0, 1602, .inl (Z 3))), (q 5, .inl (T 0, 267, .inl (Z 5))), (q 7, .inl (T 0, 60, .inl (Z 7))), (q 13, .inl (T 0, 8, .inl (Z 13))), (q 15, .inl (T 0, 3, .inl (Z 15)))] H := hP
  have hD : va_D A [(q 0, .inr (8, [.int (nI 0), .ref (q 2), .ref (q 3), .int (Z 0 3), .ref (q 5), .int (Z 0 5), .ref (q 7), .int (Z 0 7), .int (Z 0 8), .int (Z 0 9), .int (Z 0 10), .int (Z 0 11), .ref (q 13), .int (Z 0 13), .ref (q 15), .long g])), (q 2, .inl (T 0, 267, .inl (Z 2))), (q 3, .inl (T 0, 1602, .inl (Z 3))), (q 5, .inl (T 0, 267, .inl (Z 5))), (q 7, .inl (T 0, 60, .inl (Z 7))), (q 13, .inl (T 0, 8, .inl (Z 13))), (q 15, .inl (T 0, 3, .inl (Z 15)))] := hD
  refine lv_iload_n hx hb dX8_tell_5 rfl (lv_at hl 1 rfl) ?_
  refine k_roS (As := [.int x]) (rest := []) (wc := []) (d := 1) (v := bI (pWi x (nI 0) (nI 5))) cx (c_X8_isRoom l G T A x ) (va_cwS 1 hts gX8_tell_X8_isRoom rfl rfl rfl (by decide +kernel) ⟨Nat.le_of_ble_eq_true rfl, Nat.le_of_ble_eq_true rfl⟩) (hP.sub (ws' := []) [] rfl) hK (hE.kept hS.2.1) rfl hl.1 rfl (Nat.le_of_ble_eq_true rfl) dX8_tell_6 ⟨Nat.le_of_ble_eq_true rfl, Nat.le_of_ble_eq_true rfl⟩ ?_
  refine b_if_ne (b := pWi x (nI 0) (nI 5)) (tgt := 18) hx hb dX8_tell_9 (by decide) (fun c_1 => by exfalso; rw [hno] at c_1; cases c_1) (fun c_2 => ?_)
  refine lv_aload_n hx hb dX8_tell_12 rfl (lv_at hl 0 rfl) ?_
  refine n_iconst hx hb 1 dX8_tell_13 (by decide) ?_
  refine k_rwV (As := [.int (nI 1)]) (rest := []) (wc := oX8 T q (sc Z 0 (nI 0)) g) (wr := []) (w1 := oX8 T q (sc (sc Z 0 (nI 0)) 0 (nI 1)) g) (d := 0) (mc := 0) (ms := 0) (v := nI 0) (isC := [0, 1, 2, 3, 4, 5, 6]) (isR := []) cx (c_X8_fails l G T H.size q (sc Z 0 (nI 0)) g (nI 1) ) (cwV 1 hts gX8_tell_X8_fails rfl rfl rfl (by decide +kernel) ⟨Nat.le_of_ble_eq_true rfl, Nat.le_of_ble_eq_true rfl⟩) ⟨hP, hD, hS, hA, hE, hK, rfl, rfl, rfl, rfl, by decide⟩ (va_recv hK hP (ci := 8) (q0 := 0) rfl rfl) rfl hl.1 rfl (Nat.le_of_ble_eq_true rfl) dX8_tell_14 ⟨Nat.le_of_ble_eq_true rfl, Nat.le_of_ble_eq_true rfl⟩ (fun H locs hP hD hS hz => ?_)
  have hP : va_P G vwCl [(q 0, .inr (8, [.int (nI 1), .ref (q 2), .ref (q 3), .int (Z 0 3), .ref (q 5), .int (Z 0 5), .ref (q 7), .int (Z 0 7), .int (Z 0 8), .int (Z 0 9), .int (Z 0 10), .int (Z 0 11), .ref (q 13), .int (Z 0 13), .ref (q 15), .long g])), (q 2, .inl (T 0, 267, .inl (Z 2))), (q 3, .inl (T 0, 1602, .inl (Z 3))), (q 5, .inl (T 0, 267, .inl (Z 5))), (q 7, .inl (T 0, 60, .inl (Z 7))), (q 13, .inl (T 0, 8, .inl (Z 13))), (q 15, .inl (T 0, 3, .inl (Z 15)))] H := hP
  have hD : va_D A [(q 0, .inr (8, [.int (nI 1), .ref (q 2), .ref (q 3), .int (Z 0 3), .ref (q 5), .int (Z 0 5), .ref (q 7), .int (Z 0 7), .int (Z 0 8), .int (Z 0 9), .int (Z 0 10), .int (Z 0 11), .ref (q 13), .int (Z 0 13), .ref (q 15), .long g])), (q 2, .inl (T 0, 267, .inl (Z 2))), (q 3, .inl (T 0, 1602, .inl (Z 3))), (q 5, .inl (T 0, 267, .inl (Z 5))), (q 7, .inl (T 0, 60, .inl (Z 7))), (q 13, .inl (T 0, 8, .inl (Z 13))), (q 15, .inl (T 0, 3, .inl (Z 15)))] := hD
  subst hQ
  have e_3 : (nI 1) = nI 1 := (by first | rfl | simp [bI, c_2])
  rw [e_3] at hP hD
  have hP9 : va_P G vwCl (oX8 T q (sc Z 0 (nI 1)) g) H := hP
  have hD9 : va_D A (oX8 T q (sc Z 0 (nI 1)) g) := hD
  exact e_rwi hx hb hr hlocks hS (by first | rfl | simp [bI, c_2]) hP9 hD9 dX8_tell_17
set_option maxHeartbeats 4000000 in
set_option maxRecDepth 100000 in
theorem c_X8_stopped_1 (l : Launch) (G : va_G) (T : Nat → ClassId) (sz : Nat) (q : Nat → Nat) (Z : Nat → Nat → Int32) (g : Int64) (x : Int32) (hno : pWi x (nI 0) (nI 1) = false) : RWi l yX8_stopped wsX8_stopped 6 0 0 G T sz (oX8 T q Z g) [.ref (q 0), .int x] (nI 0) (oX8 T q (sc Z 0 (nI 1)) g) := by
  refine Met.ofW (cc := cX8_stopped) (maxL := 2) (ret := (some .int)) (by decide) rfl ?_
  intro p e s m args below meth c s₁ B hml hv
  obtain ⟨ha, hsz, hP, hK, hD0, hE0⟩ := hv
  have hx := B.exec
  have hb := B.bytes
  have hr := B.returns
  have hlocks := B.notSynchronized
  have hts := atoms_spec (ws := wsX8_stopped) B.pre
  have hown : s.vm.findClass RX8 = some m.cls := findClass_of_methodNamed B.named
  have cx : CallFix p m c cX8_stopped 2 s args wsX8_stopped RX8 := ⟨hx, hb, hml, hown, hts⟩
  subst hsz
  have hD := hD0.self (sz := s.heap.size)
  generalize hAe : va_A (oX8 T q Z g) s.heap.size = A at hD hE0 ⊢
  have hE : gE A s s.heap := hE0
  have hA : ∀ q : Nat, s.heap.size ≤ q → A q := fun q h => by rw [← hAe]; exact Or.inr h
  have hS : va_S A s.heap s.heap [] := va_S.rf
  refine w_entry ha (Nat.le_of_ble_eq_true rfl) (fun ls hl => ?_)
  refine w_q (fun Q0 hQ => ?_)
  have lk28 := hts (.fieldLink RX8 28 "WhistleTunesModel" "thrown" "I") (by decide +kernel)
  have hinX8 : ∀ w ∈ wsX80, w ∈ wsX8_stopped := by decide +kernel
  have hl : lv_has ls 2 [(0, .ref (q 0)), (1, .int x)] := hl
  have hP : va_P G vwCl [(q 0, .inr (8, [.int (Z 0 0), .ref (q 2), .ref (q 3), .int (Z 0 3), .ref (q 5), .int (Z 0 5), .ref (q 7), .int (Z 0 7), .int (Z 0 8), .int (Z 0 9), .int (Z 0 10), .int (Z 0 11), .ref (q 13), .int (Z 0 13), .ref (q 15), .long g])), (q 2, .inl (T 0, 267, .inl (Z 2))), (q 3, .inl (T 0, 1602, .inl (Z 3))), (q 5, .inl (T 0, 267, .inl (Z 5))), (q 7, .inl (T 0, 60, .inl (Z 7))), (q 13, .inl (T 0, 8, .inl (Z 13))), (q 15, .inl (T 0, 3, .inl (Z 15)))] s.heap := hP
  have hD : va_D A [(q 0, .inr (8, [.int (Z 0 0), .ref (q 2), .ref (q 3), .int (Z 0 3), .ref (q 5), .int (Z 0 5), .ref (q 7), .int (Z 0 7), .int (Z 0 8), .int (Z 0 9), .int (Z 0 10), .int (Z 0 11), .ref (q 13), .int (Z 0 13), .ref (q 15), .long g])), (q 2, .inl (T 0, 267, .inl (Z 2))), (q 3, .inl (T 0, 1602, .inl (Z 3))), (q 5, .inl (T 0, 267, .inl (Z 5))), (q 7, .inl (T 0, 60, .inl (Z 7))), (q 13, .inl (T 0, 8, .inl (Z 13))), (q 15, .inl (T 0, 3, .inl (Z 15)))] := hD
  skip
  refine w_h (fun H locs hHe hLe => ?_)
  have hP : va_P G vwCl [(q 0, .inr (8, [.int (Z 0 0), .ref (q 2), .ref (q 3), .int (Z 0 3), .ref (q 5), .int (Z 0 5), .ref (q 7), .int (Z 0 7), .int (Z 0 8), .int (Z 0 9), .int (Z 0 10), .int (Z 0 11), .ref (q 13), .int (Z 0 13), .ref (q 15), .long g])), (q 2, .inl (T 0, 267, .inl (Z 2))), (q 3, .inl (T 0, 1602, .inl (Z 3))), (q 5, .inl (T 0, 267, .inl (Z 5))), (q 7, .inl (T 0, 60, .inl (Z 7))), (q 13, .inl (T 0, 8, .inl (Z 13))), (q 15, .inl (T 0, 3, .inl (Z 15)))] H := by rw [hHe]; exact hP
  have hS : va_S A s.heap H locs := by rw [hHe, hLe]; exact hS
  refine lv_aload_n hx hb dX8_stopped_0 rfl (lv_at hl 0 rfl) ?_
  refine n_iconst hx hb 0 dX8_stopped_1 (by decide) ?_
  refine va_put (D := G) (ci := 8) (v := .int (nI 0)) (ty := .int) (C := RX8) (T := TX8) (N := 16) hx hb hts hinX8 tyX8 tyX8_ok nmX8 hown hK hP hD hS 0 rfl rfl 0 (by decide) lk28 (fun _ h9 => h9) rfl (by decide +kernel) rfl rfl (Nat.le_of_ble_eq_true rfl) dX8_stopped_2 (fun H locs hP hD hS => ?_)
  have hP : va_P G vwCl [(q 0, .inr (8, [.int (nI 0), .ref (q 2), .ref (q 3), .int (Z 0 3), .ref (q 5), .int (Z 0 5), .ref (q 7), .int (Z 0 7), .int (Z 0 8), .int (Z 0 9), .int (Z 0 10), .int (Z 0 11), .ref (q 13), .int (Z 0 13), .ref (q 15), .long g])), (q 2, .inl (T 0, 267, .inl (Z 2))), (q 3, .inl (T 0, 1602, .inl (Z 3))), (q 5, .inl (T 0, 267, .inl (Z 5))), (q 7, .inl (T 0, 60, .inl (Z 7))), (q 13, .inl (T 0, 8, .inl (Z 13))), (q 15, .inl (T 0, 3, .inl (Z 15)))] H := hP
  have hD : va_D A [(q 0, .inr (8, [.int (nI 0), .ref (q 2), .ref (q 3), .int (Z 0 3), .ref (q 5), .int (Z 0 5), .ref (q 7), .int (Z 0 7), .int (Z 0 8), .int (Z 0 9), .int (Z 0 10), .int (Z 0 11), .ref (q 13), .int (Z 0 13), .ref (q 15), .long g])), (q 2, .inl (T 0, 267, .inl (Z 2))), (q 3, .inl (T 0, 1602, .inl (Z 3))), (q 5, .inl (T 0, 267, .inl (Z 5))), (q 7, .inl (T 0, 60, .inl (Z 7))), (q 13, .inl (T 0, 8, .inl (Z 13))), (q 15, .inl (T 0, 3, .inl (Z 15)))] := hD
  refine lv_iload_n hx hb dX8_stopped_5 rfl (lv_at hl 1 rfl) ?_
  refine n_iconst hx hb 0 dX8_stopped_6 (by decide) ?_
  refine n_iconst hx hb 1 dX8_stopped_7 (by decide) ?_
  refine k_roS (As := [.int x, .int (nI 0), .int (nI 1)]) (rest := []) (wc := []) (d := 0) (v := bI (pWi x (nI 0) (nI 1))) cx (c_X8_within l G T A x (nI 0) (nI 1) ) (va_cwS 3 hts gX8_stopped_X8_within rfl rfl rfl (by decide +kernel) ⟨Nat.le_of_ble_eq_true rfl, Nat.le_of_ble_eq_true rfl⟩) (hP.sub (ws' := []) [] rfl) hK (hE.kept hS.2.1) rfl hl.1 rfl (Nat.le_of_ble_eq_true rfl) dX8_stopped_8 ⟨Nat.le_of_ble_eq_true rfl, Nat.le_of_ble_eq_true rfl⟩ ?_
  refine b_if_eq (b := pWi x (nI 0) (nI 1)) (tgt := 26) hx hb dX8_stopped_11 (by decide) (fun c_1 => ?_) (fun c_2 => by exfalso; rw [hno] at c_2; cases c_2)
  refine lv_aload_n hx hb dX8_stopped_26 rfl (lv_at hl 0 rfl) ?_
  refine n_iconst hx hb 1 dX8_stopped_27 (by decide) ?_
  refine k_rwV (As := [.int (nI 1)]) (rest := []) (wc := oX8 T q (sc Z 0 (nI 0)) g) (wr := []) (w1 := oX8 T q (sc (sc Z 0 (nI 0)) 0 (nI 1)) g) (d := 0) (mc := 0) (ms := 0) (v := nI 0) (isC := [0, 1, 2, 3, 4, 5, 6]) (isR := []) cx (c_X8_fails l G T H.size q (sc Z 0 (nI 0)) g (nI 1) ) (cwV 1 hts gX8_stopped_X8_fails rfl rfl rfl (by decide +kernel) ⟨Nat.le_of_ble_eq_true rfl, Nat.le_of_ble_eq_true rfl⟩) ⟨hP, hD, hS, hA, hE, hK, rfl, rfl, rfl, rfl, by decide⟩ (va_recv hK hP (ci := 8) (q0 := 0) rfl rfl) rfl hl.1 rfl (Nat.le_of_ble_eq_true rfl) dX8_stopped_28 ⟨Nat.le_of_ble_eq_true rfl, Nat.le_of_ble_eq_true rfl⟩ (fun H locs hP hD hS hz => ?_)
  have hP : va_P G vwCl [(q 0, .inr (8, [.int (nI 1), .ref (q 2), .ref (q 3), .int (Z 0 3), .ref (q 5), .int (Z 0 5), .ref (q 7), .int (Z 0 7), .int (Z 0 8), .int (Z 0 9), .int (Z 0 10), .int (Z 0 11), .ref (q 13), .int (Z 0 13), .ref (q 15), .long g])), (q 2, .inl (T 0, 267, .inl (Z 2))), (q 3, .inl (T 0, 1602, .inl (Z 3))), (q 5, .inl (T 0, 267, .inl (Z 5))), (q 7, .inl (T 0, 60, .inl (Z 7))), (q 13, .inl (T 0, 8, .inl (Z 13))), (q 15, .inl (T 0, 3, .inl (Z 15)))] H := hP
  have hD : va_D A [(q 0, .inr (8, [.int (nI 1), .ref (q 2), .ref (q 3), .int (Z 0 3), .ref (q 5), .int (Z 0 5), .ref (q 7), .int (Z 0 7), .int (Z 0 8), .int (Z 0 9), .int (Z 0 10), .int (Z 0 11), .ref (q 13), .int (Z 0 13), .ref (q 15), .long g])), (q 2, .inl (T 0, 267, .inl (Z 2))), (q 3, .inl (T 0, 1602, .inl (Z 3))), (q 5, .inl (T 0, 267, .inl (Z 5))), (q 7, .inl (T 0, 60, .inl (Z 7))), (q 13, .inl (T 0, 8, .inl (Z 13))), (q 15, .inl (T 0, 3, .inl (Z 15)))] := hD
  subst hQ
  have e_3 : (nI 1) = nI 1 := (by first | rfl | simp [bI, c_1])
  rw [e_3] at hP hD
  have hP9 : va_P G vwCl (oX8 T q (sc Z 0 (nI 1)) g) H := hP
  have hD9 : va_D A (oX8 T q (sc Z 0 (nI 1)) g) := hD
  exact e_rwi hx hb hr hlocks hS (by first | rfl | simp [bI, c_1]) hP9 hD9 dX8_stopped_31
set_option maxHeartbeats 4000000 in
set_option maxRecDepth 100000 in
theorem c_X8_latest_1 (l : Launch) (G : va_G) (T : Nat → ClassId) (sz : Nat) (q : Nat → Nat) (Z : Nat → Nat → Int32) (g : Int64) (x : Int32) (hno : pWi x (nI 0) (nI 5) = false) : RWi l yX8_latest wsX8_latest 6 0 0 G T sz (oX8 T q Z g) [.ref (q 0), .int x] (nI 0) (oX8 T q (sc Z 0 (nI 1)) g) := by
  refine Met.ofW (cc := cX8_latest) (maxL := 2) (ret := (some .int)) (by decide) rfl ?_
  intro p e s m args below meth c s₁ B hml hv
  obtain ⟨ha, hsz, hP, hK, hD0, hE0⟩ := hv
  have hx := B.exec
  have hb := B.bytes
  have hr := B.returns
  have hlocks := B.notSynchronized
  have hts := atoms_spec (ws := wsX8_latest) B.pre
  have hown : s.vm.findClass RX8 = some m.cls := findClass_of_methodNamed B.named
  have cx : CallFix p m c cX8_latest 2 s args wsX8_latest RX8 := ⟨hx, hb, hml, hown, hts⟩
  subst hsz
  have hD := hD0.self (sz := s.heap.size)
  generalize hAe : va_A (oX8 T q Z g) s.heap.size = A at hD hE0 ⊢
  have hE : gE A s s.heap := hE0
  have hA : ∀ q : Nat, s.heap.size ≤ q → A q := fun q h => by rw [← hAe]; exact Or.inr h
  have hS : va_S A s.heap s.heap [] := va_S.rf
  refine w_entry ha (Nat.le_of_ble_eq_true rfl) (fun ls hl => ?_)
  refine w_q (fun Q0 hQ => ?_)
  have lk28 := hts (.fieldLink RX8 28 "WhistleTunesModel" "thrown" "I") (by decide +kernel)
  have hinX8 : ∀ w ∈ wsX80, w ∈ wsX8_latest := by decide +kernel
  have hl : lv_has ls 2 [(0, .ref (q 0)), (1, .int x)] := hl
  have hP : va_P G vwCl [(q 0, .inr (8, [.int (Z 0 0), .ref (q 2), .ref (q 3), .int (Z 0 3), .ref (q 5), .int (Z 0 5), .ref (q 7), .int (Z 0 7), .int (Z 0 8), .int (Z 0 9), .int (Z 0 10), .int (Z 0 11), .ref (q 13), .int (Z 0 13), .ref (q 15), .long g])), (q 2, .inl (T 0, 267, .inl (Z 2))), (q 3, .inl (T 0, 1602, .inl (Z 3))), (q 5, .inl (T 0, 267, .inl (Z 5))), (q 7, .inl (T 0, 60, .inl (Z 7))), (q 13, .inl (T 0, 8, .inl (Z 13))), (q 15, .inl (T 0, 3, .inl (Z 15)))] s.heap := hP
  have hD : va_D A [(q 0, .inr (8, [.int (Z 0 0), .ref (q 2), .ref (q 3), .int (Z 0 3), .ref (q 5), .int (Z 0 5), .ref (q 7), .int (Z 0 7), .int (Z 0 8), .int (Z 0 9), .int (Z 0 10), .int (Z 0 11), .ref (q 13), .int (Z 0 13), .ref (q 15), .long g])), (q 2, .inl (T 0, 267, .inl (Z 2))), (q 3, .inl (T 0, 1602, .inl (Z 3))), (q 5, .inl (T 0, 267, .inl (Z 5))), (q 7, .inl (T 0, 60, .inl (Z 7))), (q 13, .inl (T 0, 8, .inl (Z 13))), (q 15, .inl (T 0, 3, .inl (Z 15)))] := hD
  skip
  refine w_h (fun H locs hHe hLe => ?_)
  have hP : va_P G vwCl [(q 0, .inr (8, [.int (Z 0 0), .ref (q 2), .ref (q 3), .int (Z 0 3), .ref (q 5), .int (Z 0 5), .ref (q 7), .int (Z 0 7), .int (Z 0 8), .int (Z 0 9), .int (Z 0 10), .int (Z 0 11), .ref (q 13), .int (Z 0 13), .ref (q 15), .long g])), (q 2, .inl (T 0, 267, .inl (Z 2))), (q 3, .inl (T 0, 1602, .inl (Z 3))), (q 5, .inl (T 0, 267, .inl (Z 5))), (q 7, .inl (T 0, 60, .inl (Z 7))), (q 13, .inl (T 0, 8, .inl (Z 13))), (q 15, .inl (T 0, 3, .inl (Z 15)))] H := by rw [hHe]; exact hP
  have hS : va_S A s.heap H locs := by rw [hHe, hLe]; exact hS
  refine lv_aload_n hx hb dX8_latest_0 rfl (lv_at hl 0 rfl) ?_
  refine n_iconst hx hb 0 dX8_latest_1 (by decide) ?_
  refine va_put (D := G) (ci := 8) (v := .int (nI 0)) (ty := .int) (C := RX8) (T := TX8) (N := 16) hx hb hts hinX8 tyX8 tyX8_ok nmX8 hown hK hP hD hS 0 rfl rfl 0 (by decide) lk28 (fun _ h9 => h9) rfl (by decide +kernel) rfl rfl (Nat.le_of_ble_eq_true rfl) dX8_latest_2 (fun H locs hP hD hS => ?_)
  have hP : va_P G vwCl [(q 0, .inr (8, [.int (nI 0), .ref (q 2), .ref (q 3), .int (Z 0 3), .ref (q 5), .int (Z 0 5), .ref (q 7), .int (Z 0 7), .int (Z 0 8), .int (Z 0 9), .int (Z 0 10), .int (Z 0 11), .ref (q 13), .int (Z 0 13), .ref (q 15), .long g])), (q 2, .inl (T 0, 267, .inl (Z 2))), (q 3, .inl (T 0, 1602, .inl (Z 3))), (q 5, .inl (T 0, 267, .inl (Z 5))), (q 7, .inl (T 0, 60, .inl (Z 7))), (q 13, .inl (T 0, 8, .inl (Z 13))), (q 15, .inl (T 0, 3, .inl (Z 15)))] H := hP
  have hD : va_D A [(q 0, .inr (8, [.int (nI 0), .ref (q 2), .ref (q 3), .int (Z 0 3), .ref (q 5), .int (Z 0 5), .ref (q 7), .int (Z 0 7), .int (Z 0 8), .int (Z 0 9), .int (Z 0 10), .int (Z 0 11), .ref (q 13), .int (Z 0 13), .ref (q 15), .long g])), (q 2, .inl (T 0, 267, .inl (Z 2))), (q 3, .inl (T 0, 1602, .inl (Z 3))), (q 5, .inl (T 0, 267, .inl (Z 5))), (q 7, .inl (T 0, 60, .inl (Z 7))), (q 13, .inl (T 0, 8, .inl (Z 13))), (q 15, .inl (T 0, 3, .inl (Z 15)))] := hD
  refine lv_iload_n hx hb dX8_latest_5 rfl (lv_at hl 1 rfl) ?_
  refine n_iconst hx hb 0 dX8_latest_6 (by decide) ?_
  refine n_iconst hx hb 5 dX8_latest_7 (by decide) ?_
  refine k_roS (As := [.int x, .int (nI 0), .int (nI 5)]) (rest := []) (wc := []) (d := 0) (v := bI (pWi x (nI 0) (nI 5))) cx (c_X8_within l G T A x (nI 0) (nI 5) ) (va_cwS 3 hts gX8_latest_X8_within rfl rfl rfl (by decide +kernel) ⟨Nat.le_of_ble_eq_true rfl, Nat.le_of_ble_eq_true rfl⟩) (hP.sub (ws' := []) [] rfl) hK (hE.kept hS.2.1) rfl hl.1 rfl (Nat.le_of_ble_eq_true rfl) dX8_latest_8 ⟨Nat.le_of_ble_eq_true rfl, Nat.le_of_ble_eq_true rfl⟩ ?_
  refine b_if_eq (b := pWi x (nI 0) (nI 5)) (tgt := 26) hx hb dX8_latest_11 (by decide) (fun c_1 => ?_) (fun c_2 => by exfalso; rw [hno] at c_2; cases c_2)
  refine lv_aload_n hx hb dX8_latest_26 rfl (lv_at hl 0 rfl) ?_
  refine n_iconst hx hb 1 dX8_latest_27 (by decide) ?_
  refine k_rwV (As := [.int (nI 1)]) (rest := []) (wc := oX8 T q (sc Z 0 (nI 0)) g) (wr := []) (w1 := oX8 T q (sc (sc Z 0 (nI 0)) 0 (nI 1)) g) (d := 0) (mc := 0) (ms := 0) (v := nI 0) (isC := [0, 1, 2, 3, 4, 5, 6]) (isR := []) cx (c_X8_fails l G T H.size q (sc Z 0 (nI 0)) g (nI 1) ) (cwV 1 hts gX8_latest_X8_fails rfl rfl rfl (by decide +kernel) ⟨Nat.le_of_ble_eq_true rfl, Nat.le_of_ble_eq_true rfl⟩) ⟨hP, hD, hS, hA, hE, hK, rfl, rfl, rfl, rfl, by decide⟩ (va_recv hK hP (ci := 8) (q0 := 0) rfl rfl) rfl hl.1 rfl (Nat.le_of_ble_eq_true rfl) dX8_latest_28 ⟨Nat.le_of_ble_eq_true rfl, Nat.le_of_ble_eq_true rfl⟩ (fun H locs hP hD hS hz => ?_)
  have hP : va_P G vwCl [(q 0, .inr (8, [.int (nI 1), .ref (q 2), .ref (q 3), .int (Z 0 3), .ref (q 5), .int (Z 0 5), .ref (q 7), .int (Z 0 7), .int (Z 0 8), .int (Z 0 9), .int (Z 0 10), .int (Z 0 11), .ref (q 13), .int (Z 0 13), .ref (q 15), .long g])), (q 2, .inl (T 0, 267, .inl (Z 2))), (q 3, .inl (T 0, 1602, .inl (Z 3))), (q 5, .inl (T 0, 267, .inl (Z 5))), (q 7, .inl (T 0, 60, .inl (Z 7))), (q 13, .inl (T 0, 8, .inl (Z 13))), (q 15, .inl (T 0, 3, .inl (Z 15)))] H := hP
  have hD : va_D A [(q 0, .inr (8, [.int (nI 1), .ref (q 2), .ref (q 3), .int (Z 0 3), .ref (q 5), .int (Z 0 5), .ref (q 7), .int (Z 0 7), .int (Z 0 8), .int (Z 0 9), .int (Z 0 10), .int (Z 0 11), .ref (q 13), .int (Z 0 13), .ref (q 15), .long g])), (q 2, .inl (T 0, 267, .inl (Z 2))), (q 3, .inl (T 0, 1602, .inl (Z 3))), (q 5, .inl (T 0, 267, .inl (Z 5))), (q 7, .inl (T 0, 60, .inl (Z 7))), (q 13, .inl (T 0, 8, .inl (Z 13))), (q 15, .inl (T 0, 3, .inl (Z 15)))] := hD
  subst hQ
  have e_3 : (nI 1) = nI 1 := (by first | rfl | simp [bI, c_1])
  rw [e_3] at hP hD
  have hP9 : va_P G vwCl (oX8 T q (sc Z 0 (nI 1)) g) H := hP
  have hD9 : va_D A (oX8 T q (sc Z 0 (nI 1)) g) := hD
  exact e_rwi hx hb hr hlocks hS (by first | rfl | simp [bI, c_1]) hP9 hD9 dX8_latest_31
set_option maxHeartbeats 4000000 in
set_option maxRecDepth 100000 in
theorem c_X8_count_1 (l : Launch) (G : va_G) (T : Nat → ClassId) (sz : Nat) (q : Nat → Nat) (Z : Nat → Nat → Int32) (g : Int64) (x : Int32) (hno : pWi x (nI 0) (nI 13) = false) : RWi l yX8_count wsX8_count 6 0 0 G T sz (oX8 T q Z g) [.ref (q 0), .int x] (nI 0) (oX8 T q (sc Z 0 (nI 1)) g) := by
  refine Met.ofW (cc := cX8_count) (maxL := 2) (ret := (some .int)) (by decide) rfl ?_
  intro p e s m args below meth c s₁ B hml hv
  obtain ⟨ha, hsz, hP, hK, hD0, hE0⟩ := hv
  have hx := B.exec
  have hb := B.bytes
  have hr := B.returns
  have hlocks := B.notSynchronized
  have hts := atoms_spec (ws := wsX8_count) B.pre
  have hown : s.vm.findClass RX8 = some m.cls := findClass_of_methodNamed B.named
  have cx : CallFix p m c cX8_count 2 s args wsX8_count RX8 := ⟨hx, hb, hml, hown, hts⟩
  subst hsz
  have hD := hD0.self (sz := s.heap.size)
  generalize hAe : va_A (oX8 T q Z g) s.heap.size = A at hD hE0 ⊢
  have hE : gE A s s.heap := hE0
  have hA : ∀ q : Nat, s.heap.size ≤ q → A q := fun q h => by rw [← hAe]; exact Or.inr h
  have hS : va_S A s.heap s.heap [] := va_S.rf
  refine w_entry ha (Nat.le_of_ble_eq_true rfl) (fun ls hl => ?_)
  refine w_q (fun Q0 hQ => ?_)
  have lk28 := hts (.fieldLink RX8 28 "WhistleTunesModel" "thrown" "I") (by decide +kernel)
  have hinX8 : ∀ w ∈ wsX80, w ∈ wsX8_count := by decide +kernel
  have hl : lv_has ls 2 [(0, .ref (q 0)), (1, .int x)] := hl
  have hP : va_P G vwCl [(q 0, .inr (8, [.int (Z 0 0), .ref (q 2), .ref (q 3), .int (Z 0 3), .ref (q 5), .int (Z 0 5), .ref (q 7), .int (Z 0 7), .int (Z 0 8), .int (Z 0 9), .int (Z 0 10), .int (Z 0 11), .ref (q 13), .int (Z 0 13), .ref (q 15), .long g])), (q 2, .inl (T 0, 267, .inl (Z 2))), (q 3, .inl (T 0, 1602, .inl (Z 3))), (q 5, .inl (T 0, 267, .inl (Z 5))), (q 7, .inl (T 0, 60, .inl (Z 7))), (q 13, .inl (T 0, 8, .inl (Z 13))), (q 15, .inl (T 0, 3, .inl (Z 15)))] s.heap := hP
  have hD : va_D A [(q 0, .inr (8, [.int (Z 0 0), .ref (q 2), .ref (q 3), .int (Z 0 3), .ref (q 5), .int (Z 0 5), .ref (q 7), .int (Z 0 7), .int (Z 0 8), .int (Z 0 9), .int (Z 0 10), .int (Z 0 11), .ref (q 13), .int (Z 0 13), .ref (q 15), .long g])), (q 2, .inl (T 0, 267, .inl (Z 2))), (q 3, .inl (T 0, 1602, .inl (Z 3))), (q 5, .inl (T 0, 267, .inl (Z 5))), (q 7, .inl (T 0, 60, .inl (Z 7))), (q 13, .inl (T 0, 8, .inl (Z 13))), (q 15, .inl (T 0, 3, .inl (Z 15)))] := hD
  skip
  refine w_h (fun H locs hHe hLe => ?_)
  have hP : va_P G vwCl [(q 0, .inr (8, [.int (Z 0 0), .ref (q 2), .ref (q 3), .int (Z 0 3), .ref (q 5), .int (Z 0 5), .ref (q 7), .int (Z 0 7), .int (Z 0 8), .int (Z 0 9), .int (Z 0 10), .int (Z 0 11), .ref (q 13), .int (Z 0 13), .ref (q 15), .long g])), (q 2, .inl (T 0, 267, .inl (Z 2))), (q 3, .inl (T 0, 1602, .inl (Z 3))), (q 5, .inl (T 0, 267, .inl (Z 5))), (q 7, .inl (T 0, 60, .inl (Z 7))), (q 13, .inl (T 0, 8, .inl (Z 13))), (q 15, .inl (T 0, 3, .inl (Z 15)))] H := by rw [hHe]; exact hP
  have hS : va_S A s.heap H locs := by rw [hHe, hLe]; exact hS
  refine lv_aload_n hx hb dX8_count_0 rfl (lv_at hl 0 rfl) ?_
  refine n_iconst hx hb 0 dX8_count_1 (by decide) ?_
  refine va_put (D := G) (ci := 8) (v := .int (nI 0)) (ty := .int) (C := RX8) (T := TX8) (N := 16) hx hb hts hinX8 tyX8 tyX8_ok nmX8 hown hK hP hD hS 0 rfl rfl 0 (by decide) lk28 (fun _ h9 => h9) rfl (by decide +kernel) rfl rfl (Nat.le_of_ble_eq_true rfl) dX8_count_2 (fun H locs hP hD hS => ?_)
  have hP : va_P G vwCl [(q 0, .inr (8, [.int (nI 0), .ref (q 2), .ref (q 3), .int (Z 0 3), .ref (q 5), .int (Z 0 5), .ref (q 7), .int (Z 0 7), .int (Z 0 8), .int (Z 0 9), .int (Z 0 10), .int (Z 0 11), .ref (q 13), .int (Z 0 13), .ref (q 15), .long g])), (q 2, .inl (T 0, 267, .inl (Z 2))), (q 3, .inl (T 0, 1602, .inl (Z 3))), (q 5, .inl (T 0, 267, .inl (Z 5))), (q 7, .inl (T 0, 60, .inl (Z 7))), (q 13, .inl (T 0, 8, .inl (Z 13))), (q 15, .inl (T 0, 3, .inl (Z 15)))] H := hP
  have hD : va_D A [(q 0, .inr (8, [.int (nI 0), .ref (q 2), .ref (q 3), .int (Z 0 3), .ref (q 5), .int (Z 0 5), .ref (q 7), .int (Z 0 7), .int (Z 0 8), .int (Z 0 9), .int (Z 0 10), .int (Z 0 11), .ref (q 13), .int (Z 0 13), .ref (q 15), .long g])), (q 2, .inl (T 0, 267, .inl (Z 2))), (q 3, .inl (T 0, 1602, .inl (Z 3))), (q 5, .inl (T 0, 267, .inl (Z 5))), (q 7, .inl (T 0, 60, .inl (Z 7))), (q 13, .inl (T 0, 8, .inl (Z 13))), (q 15, .inl (T 0, 3, .inl (Z 15)))] := hD
  refine lv_iload_n hx hb dX8_count_5 rfl (lv_at hl 1 rfl) ?_
  refine n_iconst hx hb 0 dX8_count_6 (by decide) ?_
  refine lv_bipush (v := nI 13) hx hb dX8_count_7 (by decide) ?_
  refine k_roS (As := [.int x, .int (nI 0), .int (nI 13)]) (rest := []) (wc := []) (d := 0) (v := bI (pWi x (nI 0) (nI 13))) cx (c_X8_within l G T A x (nI 0) (nI 13) ) (va_cwS 3 hts gX8_count_X8_within rfl rfl rfl (by decide +kernel) ⟨Nat.le_of_ble_eq_true rfl, Nat.le_of_ble_eq_true rfl⟩) (hP.sub (ws' := []) [] rfl) hK (hE.kept hS.2.1) rfl hl.1 rfl (Nat.le_of_ble_eq_true rfl) dX8_count_9 ⟨Nat.le_of_ble_eq_true rfl, Nat.le_of_ble_eq_true rfl⟩ ?_
  refine b_if_eq (b := pWi x (nI 0) (nI 13)) (tgt := 23) hx hb dX8_count_12 (by decide) (fun c_1 => ?_) (fun c_2 => by exfalso; rw [hno] at c_2; cases c_2)
  refine lv_aload_n hx hb dX8_count_23 rfl (lv_at hl 0 rfl) ?_
  refine n_iconst hx hb 1 dX8_count_24 (by decide) ?_
  refine k_rwV (As := [.int (nI 1)]) (rest := []) (wc := oX8 T q (sc Z 0 (nI 0)) g) (wr := []) (w1 := oX8 T q (sc (sc Z 0 (nI 0)) 0 (nI 1)) g) (d := 0) (mc := 0) (ms := 0) (v := nI 0) (isC := [0, 1, 2, 3, 4, 5, 6]) (isR := []) cx (c_X8_fails l G T H.size q (sc Z 0 (nI 0)) g (nI 1) ) (cwV 1 hts gX8_count_X8_fails rfl rfl rfl (by decide +kernel) ⟨Nat.le_of_ble_eq_true rfl, Nat.le_of_ble_eq_true rfl⟩) ⟨hP, hD, hS, hA, hE, hK, rfl, rfl, rfl, rfl, by decide⟩ (va_recv hK hP (ci := 8) (q0 := 0) rfl rfl) rfl hl.1 rfl (Nat.le_of_ble_eq_true rfl) dX8_count_25 ⟨Nat.le_of_ble_eq_true rfl, Nat.le_of_ble_eq_true rfl⟩ (fun H locs hP hD hS hz => ?_)
  have hP : va_P G vwCl [(q 0, .inr (8, [.int (nI 1), .ref (q 2), .ref (q 3), .int (Z 0 3), .ref (q 5), .int (Z 0 5), .ref (q 7), .int (Z 0 7), .int (Z 0 8), .int (Z 0 9), .int (Z 0 10), .int (Z 0 11), .ref (q 13), .int (Z 0 13), .ref (q 15), .long g])), (q 2, .inl (T 0, 267, .inl (Z 2))), (q 3, .inl (T 0, 1602, .inl (Z 3))), (q 5, .inl (T 0, 267, .inl (Z 5))), (q 7, .inl (T 0, 60, .inl (Z 7))), (q 13, .inl (T 0, 8, .inl (Z 13))), (q 15, .inl (T 0, 3, .inl (Z 15)))] H := hP
  have hD : va_D A [(q 0, .inr (8, [.int (nI 1), .ref (q 2), .ref (q 3), .int (Z 0 3), .ref (q 5), .int (Z 0 5), .ref (q 7), .int (Z 0 7), .int (Z 0 8), .int (Z 0 9), .int (Z 0 10), .int (Z 0 11), .ref (q 13), .int (Z 0 13), .ref (q 15), .long g])), (q 2, .inl (T 0, 267, .inl (Z 2))), (q 3, .inl (T 0, 1602, .inl (Z 3))), (q 5, .inl (T 0, 267, .inl (Z 5))), (q 7, .inl (T 0, 60, .inl (Z 7))), (q 13, .inl (T 0, 8, .inl (Z 13))), (q 15, .inl (T 0, 3, .inl (Z 15)))] := hD
  subst hQ
  have e_3 : (nI 1) = nI 1 := (by first | rfl | simp [bI, c_1])
  rw [e_3] at hP hD
  have hP9 : va_P G vwCl (oX8 T q (sc Z 0 (nI 1)) g) H := hP
  have hD9 : va_D A (oX8 T q (sc Z 0 (nI 1)) g) := hD
  exact e_rwi hx hb hr hlocks hS (by first | rfl | simp [bI, c_1]) hP9 hD9 dX8_count_28
set_option maxHeartbeats 4000000 in
set_option maxRecDepth 100000 in
theorem c_X8_bestRoom_1 (l : Launch) (G : va_G) (T : Nat → ClassId) (sz : Nat) (q : Nat → Nat) (Z : Nat → Nat → Int32) (g : Int64) (x : Int32) (hno : pWi x (nI 0) (nI 19) = false) : RWi l yX8_bestRoom wsX8_bestRoom 6 0 0 G T sz (oX8 T q Z g) [.ref (q 0), .int x] (nI 0) (oX8 T q (sc Z 0 (nI 1)) g) := by
  refine Met.ofW (cc := cX8_bestRoom) (maxL := 2) (ret := (some .int)) (by decide) rfl ?_
  intro p e s m args below meth c s₁ B hml hv
  obtain ⟨ha, hsz, hP, hK, hD0, hE0⟩ := hv
  have hx := B.exec
  have hb := B.bytes
  have hr := B.returns
  have hlocks := B.notSynchronized
  have hts := atoms_spec (ws := wsX8_bestRoom) B.pre
  have hown : s.vm.findClass RX8 = some m.cls := findClass_of_methodNamed B.named
  have cx : CallFix p m c cX8_bestRoom 2 s args wsX8_bestRoom RX8 := ⟨hx, hb, hml, hown, hts⟩
  subst hsz
  have hD := hD0.self (sz := s.heap.size)
  generalize hAe : va_A (oX8 T q Z g) s.heap.size = A at hD hE0 ⊢
  have hE : gE A s s.heap := hE0
  have hA : ∀ q : Nat, s.heap.size ≤ q → A q := fun q h => by rw [← hAe]; exact Or.inr h
  have hS : va_S A s.heap s.heap [] := va_S.rf
  refine w_entry ha (Nat.le_of_ble_eq_true rfl) (fun ls hl => ?_)
  refine w_q (fun Q0 hQ => ?_)
  have lk28 := hts (.fieldLink RX8 28 "WhistleTunesModel" "thrown" "I") (by decide +kernel)
  have hinX8 : ∀ w ∈ wsX80, w ∈ wsX8_bestRoom := by decide +kernel
  have hl : lv_has ls 2 [(0, .ref (q 0)), (1, .int x)] := hl
  have hP : va_P G vwCl [(q 0, .inr (8, [.int (Z 0 0), .ref (q 2), .ref (q 3), .int (Z 0 3), .ref (q 5), .int (Z 0 5), .ref (q 7), .int (Z 0 7), .int (Z 0 8), .int (Z 0 9), .int (Z 0 10), .int (Z 0 11), .ref (q 13), .int (Z 0 13), .ref (q 15), .long g])), (q 2, .inl (T 0, 267, .inl (Z 2))), (q 3, .inl (T 0, 1602, .inl (Z 3))), (q 5, .inl (T 0, 267, .inl (Z 5))), (q 7, .inl (T 0, 60, .inl (Z 7))), (q 13, .inl (T 0, 8, .inl (Z 13))), (q 15, .inl (T 0, 3, .inl (Z 15)))] s.heap := hP
  have hD : va_D A [(q 0, .inr (8, [.int (Z 0 0), .ref (q 2), .ref (q 3), .int (Z 0 3), .ref (q 5), .int (Z 0 5), .ref (q 7), .int (Z 0 7), .int (Z 0 8), .int (Z 0 9), .int (Z 0 10), .int (Z 0 11), .ref (q 13), .int (Z 0 13), .ref (q 15), .long g])), (q 2, .inl (T 0, 267, .inl (Z 2))), (q 3, .inl (T 0, 1602, .inl (Z 3))), (q 5, .inl (T 0, 267, .inl (Z 5))), (q 7, .inl (T 0, 60, .inl (Z 7))), (q 13, .inl (T 0, 8, .inl (Z 13))), (q 15, .inl (T 0, 3, .inl (Z 15)))] := hD
  skip
  refine w_h (fun H locs hHe hLe => ?_)
  have hP : va_P G vwCl [(q 0, .inr (8, [.int (Z 0 0), .ref (q 2), .ref (q 3), .int (Z 0 3), .ref (q 5), .int (Z 0 5), .ref (q 7), .int (Z 0 7), .int (Z 0 8), .int (Z 0 9), .int (Z 0 10), .int (Z 0 11), .ref (q 13), .int (Z 0 13), .ref (q 15), .long g])), (q 2, .inl (T 0, 267, .inl (Z 2))), (q 3, .inl (T 0, 1602, .inl (Z 3))), (q 5, .inl (T 0, 267, .inl (Z 5))), (q 7, .inl (T 0, 60, .inl (Z 7))), (q 13, .inl (T 0, 8, .inl (Z 13))), (q 15, .inl (T 0, 3, .inl (Z 15)))] H := by rw [hHe]; exact hP
  have hS : va_S A s.heap H locs := by rw [hHe, hLe]; exact hS
  refine lv_aload_n hx hb dX8_bestRoom_0 rfl (lv_at hl 0 rfl) ?_
  refine n_iconst hx hb 0 dX8_bestRoom_1 (by decide) ?_
  refine va_put (D := G) (ci := 8) (v := .int (nI 0)) (ty := .int) (C := RX8) (T := TX8) (N := 16) hx hb hts hinX8 tyX8 tyX8_ok nmX8 hown hK hP hD hS 0 rfl rfl 0 (by decide) lk28 (fun _ h9 => h9) rfl (by decide +kernel) rfl rfl (Nat.le_of_ble_eq_true rfl) dX8_bestRoom_2 (fun H locs hP hD hS => ?_)
  have hP : va_P G vwCl [(q 0, .inr (8, [.int (nI 0), .ref (q 2), .ref (q 3), .int (Z 0 3), .ref (q 5), .int (Z 0 5), .ref (q 7), .int (Z 0 7), .int (Z 0 8), .int (Z 0 9), .int (Z 0 10), .int (Z 0 11), .ref (q 13), .int (Z 0 13), .ref (q 15), .long g])), (q 2, .inl (T 0, 267, .inl (Z 2))), (q 3, .inl (T 0, 1602, .inl (Z 3))), (q 5, .inl (T 0, 267, .inl (Z 5))), (q 7, .inl (T 0, 60, .inl (Z 7))), (q 13, .inl (T 0, 8, .inl (Z 13))), (q 15, .inl (T 0, 3, .inl (Z 15)))] H := hP
  have hD : va_D A [(q 0, .inr (8, [.int (nI 0), .ref (q 2), .ref (q 3), .int (Z 0 3), .ref (q 5), .int (Z 0 5), .ref (q 7), .int (Z 0 7), .int (Z 0 8), .int (Z 0 9), .int (Z 0 10), .int (Z 0 11), .ref (q 13), .int (Z 0 13), .ref (q 15), .long g])), (q 2, .inl (T 0, 267, .inl (Z 2))), (q 3, .inl (T 0, 1602, .inl (Z 3))), (q 5, .inl (T 0, 267, .inl (Z 5))), (q 7, .inl (T 0, 60, .inl (Z 7))), (q 13, .inl (T 0, 8, .inl (Z 13))), (q 15, .inl (T 0, 3, .inl (Z 15)))] := hD
  refine lv_iload_n hx hb dX8_bestRoom_5 rfl (lv_at hl 1 rfl) ?_
  refine k_roS (As := [.int x]) (rest := []) (wc := []) (d := 1) (v := bI (pWi x (nI 0) (nI 19))) cx (c_X8_isMessage l G T A x ) (va_cwS 1 hts gX8_bestRoom_X8_isMessage rfl rfl rfl (by decide +kernel) ⟨Nat.le_of_ble_eq_true rfl, Nat.le_of_ble_eq_true rfl⟩) (hP.sub (ws' := []) [] rfl) hK (hE.kept hS.2.1) rfl hl.1 rfl (Nat.le_of_ble_eq_true rfl) dX8_bestRoom_6 ⟨Nat.le_of_ble_eq_true rfl, Nat.le_of_ble_eq_true rfl⟩ ?_
  refine b_if_eq (b := pWi x (nI 0) (nI 19)) (tgt := 20) hx hb dX8_bestRoom_9 (by decide) (fun c_1 => ?_) (fun c_2 => by exfalso; rw [hno] at c_2; cases c_2)
  refine lv_aload_n hx hb dX8_bestRoom_20 rfl (lv_at hl 0 rfl) ?_
  refine n_iconst hx hb 1 dX8_bestRoom_21 (by decide) ?_
  refine k_rwV (As := [.int (nI 1)]) (rest := []) (wc := oX8 T q (sc Z 0 (nI 0)) g) (wr := []) (w1 := oX8 T q (sc (sc Z 0 (nI 0)) 0 (nI 1)) g) (d := 0) (mc := 0) (ms := 0) (v := nI 0) (isC := [0, 1, 2, 3, 4, 5, 6]) (isR := []) cx (c_X8_fails l G T H.size q (sc Z 0 (nI 0)) g (nI 1) ) (cwV 1 hts gX8_bestRoom_X8_fails rfl rfl rfl (by decide +kernel) ⟨Nat.le_of_ble_eq_true rfl, Nat.le_of_ble_eq_true rfl⟩) ⟨hP, hD, hS, hA, hE, hK, rfl, rfl, rfl, rfl, by decide⟩ (va_recv hK hP (ci := 8) (q0 := 0) rfl rfl) rfl hl.1 rfl (Nat.le_of_ble_eq_true rfl) dX8_bestRoom_22 ⟨Nat.le_of_ble_eq_true rfl, Nat.le_of_ble_eq_true rfl⟩ (fun H locs hP hD hS hz => ?_)
  have hP : va_P G vwCl [(q 0, .inr (8, [.int (nI 1), .ref (q 2), .ref (q 3), .int (Z 0 3), .ref (q 5), .int (Z 0 5), .ref (q 7), .int (Z 0 7), .int (Z 0 8), .int (Z 0 9), .int (Z 0 10), .int (Z 0 11), .ref (q 13), .int (Z 0 13), .ref (q 15), .long g])), (q 2, .inl (T 0, 267, .inl (Z 2))), (q 3, .inl (T 0, 1602, .inl (Z 3))), (q 5, .inl (T 0, 267, .inl (Z 5))), (q 7, .inl (T 0, 60, .inl (Z 7))), (q 13, .inl (T 0, 8, .inl (Z 13))), (q 15, .inl (T 0, 3, .inl (Z 15)))] H := hP
  have hD : va_D A [(q 0, .inr (8, [.int (nI 1), .ref (q 2), .ref (q 3), .int (Z 0 3), .ref (q 5), .int (Z 0 5), .ref (q 7), .int (Z 0 7), .int (Z 0 8), .int (Z 0 9), .int (Z 0 10), .int (Z 0 11), .ref (q 13), .int (Z 0 13), .ref (q 15), .long g])), (q 2, .inl (T 0, 267, .inl (Z 2))), (q 3, .inl (T 0, 1602, .inl (Z 3))), (q 5, .inl (T 0, 267, .inl (Z 5))), (q 7, .inl (T 0, 60, .inl (Z 7))), (q 13, .inl (T 0, 8, .inl (Z 13))), (q 15, .inl (T 0, 3, .inl (Z 15)))] := hD
  subst hQ
  have e_3 : (nI 1) = nI 1 := (by first | rfl | simp [bI, c_1])
  rw [e_3] at hP hD
  have hP9 : va_P G vwCl (oX8 T q (sc Z 0 (nI 1)) g) H := hP
  have hD9 : va_D A (oX8 T q (sc Z 0 (nI 1)) g) := hD
  exact e_rwi hx hb hr hlocks hS (by first | rfl | simp [bI, c_1]) hP9 hD9 dX8_bestRoom_25
set_option maxHeartbeats 4000000 in
set_option maxRecDepth 100000 in
theorem c_X8_append_1 (l : Launch) (G : va_G) (T : Nat → ClassId) (sz : Nat) (q : Nat → Nat) (Z : Nat → Nat → Int32) (g : Int64) (x : Int32) (hno : pWi x (nI 33) (nI 126) = false) : RWi l yX8_append wsX8_append 6 0 0 G T sz (oX8 T q Z g) [.ref (q 0), .int x] (nI 0) (oX8 T q (sc Z 0 (nI 1)) g) := by
  refine Met.ofW (cc := cX8_append) (maxL := 2) (ret := (some .int)) (by decide) rfl ?_
  intro p e s m args below meth c s₁ B hml hv
  obtain ⟨ha, hsz, hP, hK, hD0, hE0⟩ := hv
  have hx := B.exec
  have hb := B.bytes
  have hr := B.returns
  have hlocks := B.notSynchronized
  have hts := atoms_spec (ws := wsX8_append) B.pre
  have hown : s.vm.findClass RX8 = some m.cls := findClass_of_methodNamed B.named
  have cx : CallFix p m c cX8_append 2 s args wsX8_append RX8 := ⟨hx, hb, hml, hown, hts⟩
  subst hsz
  have hD := hD0.self (sz := s.heap.size)
  generalize hAe : va_A (oX8 T q Z g) s.heap.size = A at hD hE0 ⊢
  have hE : gE A s s.heap := hE0
  have hA : ∀ q : Nat, s.heap.size ≤ q → A q := fun q h => by rw [← hAe]; exact Or.inr h
  have hS : va_S A s.heap s.heap [] := va_S.rf
  refine w_entry ha (Nat.le_of_ble_eq_true rfl) (fun ls hl => ?_)
  refine w_q (fun Q0 hQ => ?_)
  have lk28 := hts (.fieldLink RX8 28 "WhistleTunesModel" "thrown" "I") (by decide +kernel)
  have hinX8 : ∀ w ∈ wsX80, w ∈ wsX8_append := by decide +kernel
  have hl : lv_has ls 2 [(0, .ref (q 0)), (1, .int x)] := hl
  have hP : va_P G vwCl [(q 0, .inr (8, [.int (Z 0 0), .ref (q 2), .ref (q 3), .int (Z 0 3), .ref (q 5), .int (Z 0 5), .ref (q 7), .int (Z 0 7), .int (Z 0 8), .int (Z 0 9), .int (Z 0 10), .int (Z 0 11), .ref (q 13), .int (Z 0 13), .ref (q 15), .long g])), (q 2, .inl (T 0, 267, .inl (Z 2))), (q 3, .inl (T 0, 1602, .inl (Z 3))), (q 5, .inl (T 0, 267, .inl (Z 5))), (q 7, .inl (T 0, 60, .inl (Z 7))), (q 13, .inl (T 0, 8, .inl (Z 13))), (q 15, .inl (T 0, 3, .inl (Z 15)))] s.heap := hP
  have hD : va_D A [(q 0, .inr (8, [.int (Z 0 0), .ref (q 2), .ref (q 3), .int (Z 0 3), .ref (q 5), .int (Z 0 5), .ref (q 7), .int (Z 0 7), .int (Z 0 8), .int (Z 0 9), .int (Z 0 10), .int (Z 0 11), .ref (q 13), .int (Z 0 13), .ref (q 15), .long g])), (q 2, .inl (T 0, 267, .inl (Z 2))), (q 3, .inl (T 0, 1602, .inl (Z 3))), (q 5, .inl (T 0, 267, .inl (Z 5))), (q 7, .inl (T 0, 60, .inl (Z 7))), (q 13, .inl (T 0, 8, .inl (Z 13))), (q 15, .inl (T 0, 3, .inl (Z 15)))] := hD
  skip
  refine w_h (fun H locs hHe hLe => ?_)
  have hP : va_P G vwCl [(q 0, .inr (8, [.int (Z 0 0), .ref (q 2), .ref (q 3), .int (Z 0 3), .ref (q 5), .int (Z 0 5), .ref (q 7), .int (Z 0 7), .int (Z 0 8), .int (Z 0 9), .int (Z 0 10), .int (Z 0 11), .ref (q 13), .int (Z 0 13), .ref (q 15), .long g])), (q 2, .inl (T 0, 267, .inl (Z 2))), (q 3, .inl (T 0, 1602, .inl (Z 3))), (q 5, .inl (T 0, 267, .inl (Z 5))), (q 7, .inl (T 0, 60, .inl (Z 7))), (q 13, .inl (T 0, 8, .inl (Z 13))), (q 15, .inl (T 0, 3, .inl (Z 15)))] H := by rw [hHe]; exact hP
  have hS : va_S A s.heap H locs := by rw [hHe, hLe]; exact hS
  refine lv_aload_n hx hb dX8_append_0 rfl (lv_at hl 0 rfl) ?_
  refine n_iconst hx hb 0 dX8_append_1 (by decide) ?_
  refine va_put (D := G) (ci := 8) (v := .int (nI 0)) (ty := .int) (C := RX8) (T := TX8) (N := 16) hx hb hts hinX8 tyX8 tyX8_ok nmX8 hown hK hP hD hS 0 rfl rfl 0 (by decide) lk28 (fun _ h9 => h9) rfl (by decide +kernel) rfl rfl (Nat.le_of_ble_eq_true rfl) dX8_append_2 (fun H locs hP hD hS => ?_)
  have hP : va_P G vwCl [(q 0, .inr (8, [.int (nI 0), .ref (q 2), .ref (q 3), .int (Z 0 3), .ref (q 5), .int (Z 0 5), .ref (q 7), .int (Z 0 7), .int (Z 0 8), .int (Z 0 9), .int (Z 0 10), .int (Z 0 11), .ref (q 13), .int (Z 0 13), .ref (q 15), .long g])), (q 2, .inl (T 0, 267, .inl (Z 2))), (q 3, .inl (T 0, 1602, .inl (Z 3))), (q 5, .inl (T 0, 267, .inl (Z 5))), (q 7, .inl (T 0, 60, .inl (Z 7))), (q 13, .inl (T 0, 8, .inl (Z 13))), (q 15, .inl (T 0, 3, .inl (Z 15)))] H := hP
  have hD : va_D A [(q 0, .inr (8, [.int (nI 0), .ref (q 2), .ref (q 3), .int (Z 0 3), .ref (q 5), .int (Z 0 5), .ref (q 7), .int (Z 0 7), .int (Z 0 8), .int (Z 0 9), .int (Z 0 10), .int (Z 0 11), .ref (q 13), .int (Z 0 13), .ref (q 15), .long g])), (q 2, .inl (T 0, 267, .inl (Z 2))), (q 3, .inl (T 0, 1602, .inl (Z 3))), (q 5, .inl (T 0, 267, .inl (Z 5))), (q 7, .inl (T 0, 60, .inl (Z 7))), (q 13, .inl (T 0, 8, .inl (Z 13))), (q 15, .inl (T 0, 3, .inl (Z 15)))] := hD
  refine lv_iload_n hx hb dX8_append_5 rfl (lv_at hl 1 rfl) ?_
  refine lv_bipush (v := nI 33) hx hb dX8_append_6 (by decide) ?_
  refine lv_bipush (v := nI 126) hx hb dX8_append_8 (by decide) ?_
  refine k_roS (As := [.int x, .int (nI 33), .int (nI 126)]) (rest := []) (wc := []) (d := 0) (v := bI (pWi x (nI 33) (nI 126))) cx (c_X8_within l G T A x (nI 33) (nI 126) ) (va_cwS 3 hts gX8_append_X8_within rfl rfl rfl (by decide +kernel) ⟨Nat.le_of_ble_eq_true rfl, Nat.le_of_ble_eq_true rfl⟩) (hP.sub (ws' := []) [] rfl) hK (hE.kept hS.2.1) rfl hl.1 rfl (Nat.le_of_ble_eq_true rfl) dX8_append_10 ⟨Nat.le_of_ble_eq_true rfl, Nat.le_of_ble_eq_true rfl⟩ ?_
  refine b_if_ne (b := pWi x (nI 33) (nI 126)) (tgt := 22) hx hb dX8_append_13 (by decide) (fun c_1 => by exfalso; rw [hno] at c_1; cases c_1) (fun c_2 => ?_)
  refine lv_aload_n hx hb dX8_append_16 rfl (lv_at hl 0 rfl) ?_
  refine n_iconst hx hb 1 dX8_append_17 (by decide) ?_
  refine k_rwV (As := [.int (nI 1)]) (rest := []) (wc := oX8 T q (sc Z 0 (nI 0)) g) (wr := []) (w1 := oX8 T q (sc (sc Z 0 (nI 0)) 0 (nI 1)) g) (d := 0) (mc := 0) (ms := 0) (v := nI 0) (isC := [0, 1, 2, 3, 4, 5, 6]) (isR := []) cx (c_X8_fails l G T H.size q (sc Z 0 (nI 0)) g (nI 1) ) (cwV 1 hts gX8_append_X8_fails rfl rfl rfl (by decide +kernel) ⟨Nat.le_of_ble_eq_true rfl, Nat.le_of_ble_eq_true rfl⟩) ⟨hP, hD, hS, hA, hE, hK, rfl, rfl, rfl, rfl, by decide⟩ (va_recv hK hP (ci := 8) (q0 := 0) rfl rfl) rfl hl.1 rfl (Nat.le_of_ble_eq_true rfl) dX8_append_18 ⟨Nat.le_of_ble_eq_true rfl, Nat.le_of_ble_eq_true rfl⟩ (fun H locs hP hD hS hz => ?_)
  have hP : va_P G vwCl [(q 0, .inr (8, [.int (nI 1), .ref (q 2), .ref (q 3), .int (Z 0 3), .ref (q 5), .int (Z 0 5), .ref (q 7), .int (Z 0 7), .int (Z 0 8), .int (Z 0 9), .int (Z 0 10), .int (Z 0 11), .ref (q 13), .int (Z 0 13), .ref (q 15), .long g])), (q 2, .inl (T 0, 267, .inl (Z 2))), (q 3, .inl (T 0, 1602, .inl (Z 3))), (q 5, .inl (T 0, 267, .inl (Z 5))), (q 7, .inl (T 0, 60, .inl (Z 7))), (q 13, .inl (T 0, 8, .inl (Z 13))), (q 15, .inl (T 0, 3, .inl (Z 15)))] H := hP
  have hD : va_D A [(q 0, .inr (8, [.int (nI 1), .ref (q 2), .ref (q 3), .int (Z 0 3), .ref (q 5), .int (Z 0 5), .ref (q 7), .int (Z 0 7), .int (Z 0 8), .int (Z 0 9), .int (Z 0 10), .int (Z 0 11), .ref (q 13), .int (Z 0 13), .ref (q 15), .long g])), (q 2, .inl (T 0, 267, .inl (Z 2))), (q 3, .inl (T 0, 1602, .inl (Z 3))), (q 5, .inl (T 0, 267, .inl (Z 5))), (q 7, .inl (T 0, 60, .inl (Z 7))), (q 13, .inl (T 0, 8, .inl (Z 13))), (q 15, .inl (T 0, 3, .inl (Z 15)))] := hD
  subst hQ
  have e_3 : (nI 1) = nI 1 := (by first | rfl | simp [bI, c_2])
  rw [e_3] at hP hD
  have hP9 : va_P G vwCl (oX8 T q (sc Z 0 (nI 1)) g) H := hP
  have hD9 : va_D A (oX8 T q (sc Z 0 (nI 1)) g) := hD
  exact e_rwi hx hb hr hlocks hS (by first | rfl | simp [bI, c_2]) hP9 hD9 dX8_append_21
set_option maxHeartbeats 4000000 in
set_option maxRecDepth 100000 in
theorem c_X8_lookout_1 (l : Launch) (G : va_G) (T : Nat → ClassId) (sz : Nat) (q : Nat → Nat) (Z : Nat → Nat → Int32) (g : Int64) (x : Int32) (b : Bool) (hno : pWi x (nI 0) (nI 2) = false) : RWi l yX8_lookout wsX8_lookout 6 0 0 G T sz (oX8 T q Z g) [.ref (q 0), .int x, .int (bI b)] (nI 0) (oX8 T q (sc Z 0 (nI 1)) g) := by
  refine Met.ofW (cc := cX8_lookout) (maxL := 3) (ret := (some .int)) (by decide) rfl ?_
  intro p e s m args below meth c s₁ B hml hv
  obtain ⟨ha, hsz, hP, hK, hD0, hE0⟩ := hv
  have hx := B.exec
  have hb := B.bytes
  have hr := B.returns
  have hlocks := B.notSynchronized
  have hts := atoms_spec (ws := wsX8_lookout) B.pre
  have hown : s.vm.findClass RX8 = some m.cls := findClass_of_methodNamed B.named
  have cx : CallFix p m c cX8_lookout 3 s args wsX8_lookout RX8 := ⟨hx, hb, hml, hown, hts⟩
  subst hsz
  have hD := hD0.self (sz := s.heap.size)
  generalize hAe : va_A (oX8 T q Z g) s.heap.size = A at hD hE0 ⊢
  have hE : gE A s s.heap := hE0
  have hA : ∀ q : Nat, s.heap.size ≤ q → A q := fun q h => by rw [← hAe]; exact Or.inr h
  have hS : va_S A s.heap s.heap [] := va_S.rf
  refine w_entry ha (Nat.le_of_ble_eq_true rfl) (fun ls hl => ?_)
  refine w_q (fun Q0 hQ => ?_)
  have lk28 := hts (.fieldLink RX8 28 "WhistleTunesModel" "thrown" "I") (by decide +kernel)
  have hinX8 : ∀ w ∈ wsX80, w ∈ wsX8_lookout := by decide +kernel
  have hl : lv_has ls 3 [(0, .ref (q 0)), (1, .int x), (2, .int (bI b))] := hl
  have hP : va_P G vwCl [(q 0, .inr (8, [.int (Z 0 0), .ref (q 2), .ref (q 3), .int (Z 0 3), .ref (q 5), .int (Z 0 5), .ref (q 7), .int (Z 0 7), .int (Z 0 8), .int (Z 0 9), .int (Z 0 10), .int (Z 0 11), .ref (q 13), .int (Z 0 13), .ref (q 15), .long g])), (q 2, .inl (T 0, 267, .inl (Z 2))), (q 3, .inl (T 0, 1602, .inl (Z 3))), (q 5, .inl (T 0, 267, .inl (Z 5))), (q 7, .inl (T 0, 60, .inl (Z 7))), (q 13, .inl (T 0, 8, .inl (Z 13))), (q 15, .inl (T 0, 3, .inl (Z 15)))] s.heap := hP
  have hD : va_D A [(q 0, .inr (8, [.int (Z 0 0), .ref (q 2), .ref (q 3), .int (Z 0 3), .ref (q 5), .int (Z 0 5), .ref (q 7), .int (Z 0 7), .int (Z 0 8), .int (Z 0 9), .int (Z 0 10), .int (Z 0 11), .ref (q 13), .int (Z 0 13), .ref (q 15), .long g])), (q 2, .inl (T 0, 267, .inl (Z 2))), (q 3, .inl (T 0, 1602, .inl (Z 3))), (q 5, .inl (T 0, 267, .inl (Z 5))), (q 7, .inl (T 0, 60, .inl (Z 7))), (q 13, .inl (T 0, 8, .inl (Z 13))), (q 15, .inl (T 0, 3, .inl (Z 15)))] := hD
  skip
  refine w_h (fun H locs hHe hLe => ?_)
  have hP : va_P G vwCl [(q 0, .inr (8, [.int (Z 0 0), .ref (q 2), .ref (q 3), .int (Z 0 3), .ref (q 5), .int (Z 0 5), .ref (q 7), .int (Z 0 7), .int (Z 0 8), .int (Z 0 9), .int (Z 0 10), .int (Z 0 11), .ref (q 13), .int (Z 0 13), .ref (q 15), .long g])), (q 2, .inl (T 0, 267, .inl (Z 2))), (q 3, .inl (T 0, 1602, .inl (Z 3))), (q 5, .inl (T 0, 267, .inl (Z 5))), (q 7, .inl (T 0, 60, .inl (Z 7))), (q 13, .inl (T 0, 8, .inl (Z 13))), (q 15, .inl (T 0, 3, .inl (Z 15)))] H := by rw [hHe]; exact hP
  have hS : va_S A s.heap H locs := by rw [hHe, hLe]; exact hS
  refine lv_aload_n hx hb dX8_lookout_0 rfl (lv_at hl 0 rfl) ?_
  refine n_iconst hx hb 0 dX8_lookout_1 (by decide) ?_
  refine va_put (D := G) (ci := 8) (v := .int (nI 0)) (ty := .int) (C := RX8) (T := TX8) (N := 16) hx hb hts hinX8 tyX8 tyX8_ok nmX8 hown hK hP hD hS 0 rfl rfl 0 (by decide) lk28 (fun _ h9 => h9) rfl (by decide +kernel) rfl rfl (Nat.le_of_ble_eq_true rfl) dX8_lookout_2 (fun H locs hP hD hS => ?_)
  have hP : va_P G vwCl [(q 0, .inr (8, [.int (nI 0), .ref (q 2), .ref (q 3), .int (Z 0 3), .ref (q 5), .int (Z 0 5), .ref (q 7), .int (Z 0 7), .int (Z 0 8), .int (Z 0 9), .int (Z 0 10), .int (Z 0 11), .ref (q 13), .int (Z 0 13), .ref (q 15), .long g])), (q 2, .inl (T 0, 267, .inl (Z 2))), (q 3, .inl (T 0, 1602, .inl (Z 3))), (q 5, .inl (T 0, 267, .inl (Z 5))), (q 7, .inl (T 0, 60, .inl (Z 7))), (q 13, .inl (T 0, 8, .inl (Z 13))), (q 15, .inl (T 0, 3, .inl (Z 15)))] H := hP
  have hD : va_D A [(q 0, .inr (8, [.int (nI 0), .ref (q 2), .ref (q 3), .int (Z 0 3), .ref (q 5), .int (Z 0 5), .ref (q 7), .int (Z 0 7), .int (Z 0 8), .int (Z 0 9), .int (Z 0 10), .int (Z 0 11), .ref (q 13), .int (Z 0 13), .ref (q 15), .long g])), (q 2, .inl (T 0, 267, .inl (Z 2))), (q 3, .inl (T 0, 1602, .inl (Z 3))), (q 5, .inl (T 0, 267, .inl (Z 5))), (q 7, .inl (T 0, 60, .inl (Z 7))), (q 13, .inl (T 0, 8, .inl (Z 13))), (q 15, .inl (T 0, 3, .inl (Z 15)))] := hD
  refine lv_iload_n hx hb dX8_lookout_5 rfl (lv_at hl 1 rfl) ?_
  refine n_iconst hx hb 0 dX8_lookout_6 (by decide) ?_
  refine n_iconst hx hb 2 dX8_lookout_7 (by decide) ?_
  refine k_roS (As := [.int x, .int (nI 0), .int (nI 2)]) (rest := []) (wc := []) (d := 0) (v := bI (pWi x (nI 0) (nI 2))) cx (c_X8_within l G T A x (nI 0) (nI 2) ) (va_cwS 3 hts gX8_lookout_X8_within rfl rfl rfl (by decide +kernel) ⟨Nat.le_of_ble_eq_true rfl, Nat.le_of_ble_eq_true rfl⟩) (hP.sub (ws' := []) [] rfl) hK (hE.kept hS.2.1) rfl hl.1 rfl (Nat.le_of_ble_eq_true rfl) dX8_lookout_8 ⟨Nat.le_of_ble_eq_true rfl, Nat.le_of_ble_eq_true rfl⟩ ?_
  refine b_if_ne (b := pWi x (nI 0) (nI 2)) (tgt := 20) hx hb dX8_lookout_11 (by decide) (fun c_1 => by exfalso; rw [hno] at c_1; cases c_1) (fun c_2 => ?_)
  refine lv_aload_n hx hb dX8_lookout_14 rfl (lv_at hl 0 rfl) ?_
  refine n_iconst hx hb 1 dX8_lookout_15 (by decide) ?_
  refine k_rwV (As := [.int (nI 1)]) (rest := []) (wc := oX8 T q (sc Z 0 (nI 0)) g) (wr := []) (w1 := oX8 T q (sc (sc Z 0 (nI 0)) 0 (nI 1)) g) (d := 0) (mc := 0) (ms := 0) (v := nI 0) (isC := [0, 1, 2, 3, 4, 5, 6]) (isR := []) cx (c_X8_fails l G T H.size q (sc Z 0 (nI 0)) g (nI 1) ) (cwV 1 hts gX8_lookout_X8_fails rfl rfl rfl (by decide +kernel) ⟨Nat.le_of_ble_eq_true rfl, Nat.le_of_ble_eq_true rfl⟩) ⟨hP, hD, hS, hA, hE, hK, rfl, rfl, rfl, rfl, by decide⟩ (va_recv hK hP (ci := 8) (q0 := 0) rfl rfl) rfl hl.1 rfl (Nat.le_of_ble_eq_true rfl) dX8_lookout_16 ⟨Nat.le_of_ble_eq_true rfl, Nat.le_of_ble_eq_true rfl⟩ (fun H locs hP hD hS hz => ?_)
  have hP : va_P G vwCl [(q 0, .inr (8, [.int (nI 1), .ref (q 2), .ref (q 3), .int (Z 0 3), .ref (q 5), .int (Z 0 5), .ref (q 7), .int (Z 0 7), .int (Z 0 8), .int (Z 0 9), .int (Z 0 10), .int (Z 0 11), .ref (q 13), .int (Z 0 13), .ref (q 15), .long g])), (q 2, .inl (T 0, 267, .inl (Z 2))), (q 3, .inl (T 0, 1602, .inl (Z 3))), (q 5, .inl (T 0, 267, .inl (Z 5))), (q 7, .inl (T 0, 60, .inl (Z 7))), (q 13, .inl (T 0, 8, .inl (Z 13))), (q 15, .inl (T 0, 3, .inl (Z 15)))] H := hP
  have hD : va_D A [(q 0, .inr (8, [.int (nI 1), .ref (q 2), .ref (q 3), .int (Z 0 3), .ref (q 5), .int (Z 0 5), .ref (q 7), .int (Z 0 7), .int (Z 0 8), .int (Z 0 9), .int (Z 0 10), .int (Z 0 11), .ref (q 13), .int (Z 0 13), .ref (q 15), .long g])), (q 2, .inl (T 0, 267, .inl (Z 2))), (q 3, .inl (T 0, 1602, .inl (Z 3))), (q 5, .inl (T 0, 267, .inl (Z 5))), (q 7, .inl (T 0, 60, .inl (Z 7))), (q 13, .inl (T 0, 8, .inl (Z 13))), (q 15, .inl (T 0, 3, .inl (Z 15)))] := hD
  subst hQ
  have e_3 : (nI 1) = nI 1 := (by first | rfl | simp [bI, c_2])
  rw [e_3] at hP hD
  have hP9 : va_P G vwCl (oX8 T q (sc Z 0 (nI 1)) g) H := hP
  have hD9 : va_D A (oX8 T q (sc Z 0 (nI 1)) g) := hD
  exact e_rwi hx hb hr hlocks hS (by first | rfl | simp [bI, c_2]) hP9 hD9 dX8_lookout_19
set_option maxHeartbeats 4000000 in
set_option maxRecDepth 100000 in
theorem c_X8_ban_1 (l : Launch) (G : va_G) (T : Nat → ClassId) (sz : Nat) (q : Nat → Nat) (Z : Nat → Nat → Int32) (g : Int64) (x : Int32) (y : Int32) (hno : (pWi x (nI 0) (nI 2) && pWi y (nI 0) (nI 19)) = false) : RWi l yX8_ban wsX8_ban 6 0 0 G T sz (oX8 T q Z g) [.ref (q 0), .int x, .int y] (nI 0) (oX8 T q (sc Z 0 (nI 1)) g) := by
  refine Met.ofW (cc := cX8_ban) (maxL := 3) (ret := (some .int)) (by decide) rfl ?_
  intro p e s m args below meth c s₁ B hml hv
  obtain ⟨ha, hsz, hP, hK, hD0, hE0⟩ := hv
  have hx := B.exec
  have hb := B.bytes
  have hr := B.returns
  have hlocks := B.notSynchronized
  have hts := atoms_spec (ws := wsX8_ban) B.pre
  have hown : s.vm.findClass RX8 = some m.cls := findClass_of_methodNamed B.named
  have cx : CallFix p m c cX8_ban 3 s args wsX8_ban RX8 := ⟨hx, hb, hml, hown, hts⟩
  subst hsz
  have hD := hD0.self (sz := s.heap.size)
  generalize hAe : va_A (oX8 T q Z g) s.heap.size = A at hD hE0 ⊢
  have hE : gE A s s.heap := hE0
  have hA : ∀ q : Nat, s.heap.size ≤ q → A q := fun q h => by rw [← hAe]; exact Or.inr h
  have hS : va_S A s.heap s.heap [] := va_S.rf
  refine w_entry ha (Nat.le_of_ble_eq_true rfl) (fun ls hl => ?_)
  refine w_q (fun Q0 hQ => ?_)
  have lk28 := hts (.fieldLink RX8 28 "WhistleTunesModel" "thrown" "I") (by decide +kernel)
  have hinX8 : ∀ w ∈ wsX80, w ∈ wsX8_ban := by decide +kernel
  have hl : lv_has ls 3 [(0, .ref (q 0)), (1, .int x), (2, .int y)] := hl
  have hP : va_P G vwCl [(q 0, .inr (8, [.int (Z 0 0), .ref (q 2), .ref (q 3), .int (Z 0 3), .ref (q 5), .int (Z 0 5), .ref (q 7), .int (Z 0 7), .int (Z 0 8), .int (Z 0 9), .int (Z 0 10), .int (Z 0 11), .ref (q 13), .int (Z 0 13), .ref (q 15), .long g])), (q 2, .inl (T 0, 267, .inl (Z 2))), (q 3, .inl (T 0, 1602, .inl (Z 3))), (q 5, .inl (T 0, 267, .inl (Z 5))), (q 7, .inl (T 0, 60, .inl (Z 7))), (q 13, .inl (T 0, 8, .inl (Z 13))), (q 15, .inl (T 0, 3, .inl (Z 15)))] s.heap := hP
  have hD : va_D A [(q 0, .inr (8, [.int (Z 0 0), .ref (q 2), .ref (q 3), .int (Z 0 3), .ref (q 5), .int (Z 0 5), .ref (q 7), .int (Z 0 7), .int (Z 0 8), .int (Z 0 9), .int (Z 0 10), .int (Z 0 11), .ref (q 13), .int (Z 0 13), .ref (q 15), .long g])), (q 2, .inl (T 0, 267, .inl (Z 2))), (q 3, .inl (T 0, 1602, .inl (Z 3))), (q 5, .inl (T 0, 267, .inl (Z 5))), (q 7, .inl (T 0, 60, .inl (Z 7))), (q 13, .inl (T 0, 8, .inl (Z 13))), (q 15, .inl (T 0, 3, .inl (Z 15)))] := hD
  skip
  refine w_h (fun H locs hHe hLe => ?_)
  have hP : va_P G vwCl [(q 0, .inr (8, [.int (Z 0 0), .ref (q 2), .ref (q 3), .int (Z 0 3), .ref (q 5), .int (Z 0 5), .ref (q 7), .int (Z 0 7), .int (Z 0 8), .int (Z 0 9), .int (Z 0 10), .int (Z 0 11), .ref (q 13), .int (Z 0 13), .ref (q 15), .long g])), (q 2, .inl (T 0, 267, .inl (Z 2))), (q 3, .inl (T 0, 1602, .inl (Z 3))), (q 5, .inl (T 0, 267, .inl (Z 5))), (q 7, .inl (T 0, 60, .inl (Z 7))), (q 13, .inl (T 0, 8, .inl (Z 13))), (q 15, .inl (T 0, 3, .inl (Z 15)))] H := by rw [hHe]; exact hP
  have hS : va_S A s.heap H locs := by rw [hHe, hLe]; exact hS
  refine lv_aload_n hx hb dX8_ban_0 rfl (lv_at hl 0 rfl) ?_
  refine n_iconst hx hb 0 dX8_ban_1 (by decide) ?_
  refine va_put (D := G) (ci := 8) (v := .int (nI 0)) (ty := .int) (C := RX8) (T := TX8) (N := 16) hx hb hts hinX8 tyX8 tyX8_ok nmX8 hown hK hP hD hS 0 rfl rfl 0 (by decide) lk28 (fun _ h9 => h9) rfl (by decide +kernel) rfl rfl (Nat.le_of_ble_eq_true rfl) dX8_ban_2 (fun H locs hP hD hS => ?_)
  have hP : va_P G vwCl [(q 0, .inr (8, [.int (nI 0), .ref (q 2), .ref (q 3), .int (Z 0 3), .ref (q 5), .int (Z 0 5), .ref (q 7), .int (Z 0 7), .int (Z 0 8), .int (Z 0 9), .int (Z 0 10), .int (Z 0 11), .ref (q 13), .int (Z 0 13), .ref (q 15), .long g])), (q 2, .inl (T 0, 267, .inl (Z 2))), (q 3, .inl (T 0, 1602, .inl (Z 3))), (q 5, .inl (T 0, 267, .inl (Z 5))), (q 7, .inl (T 0, 60, .inl (Z 7))), (q 13, .inl (T 0, 8, .inl (Z 13))), (q 15, .inl (T 0, 3, .inl (Z 15)))] H := hP
  have hD : va_D A [(q 0, .inr (8, [.int (nI 0), .ref (q 2), .ref (q 3), .int (Z 0 3), .ref (q 5), .int (Z 0 5), .ref (q 7), .int (Z 0 7), .int (Z 0 8), .int (Z 0 9), .int (Z 0 10), .int (Z 0 11), .ref (q 13), .int (Z 0 13), .ref (q 15), .long g])), (q 2, .inl (T 0, 267, .inl (Z 2))), (q 3, .inl (T 0, 1602, .inl (Z 3))), (q 5, .inl (T 0, 267, .inl (Z 5))), (q 7, .inl (T 0, 60, .inl (Z 7))), (q 13, .inl (T 0, 8, .inl (Z 13))), (q 15, .inl (T 0, 3, .inl (Z 15)))] := hD
  refine lv_iload_n hx hb dX8_ban_5 rfl (lv_at hl 1 rfl) ?_
  refine n_iconst hx hb 0 dX8_ban_6 (by decide) ?_
  refine n_iconst hx hb 2 dX8_ban_7 (by decide) ?_
  refine k_roS (As := [.int x, .int (nI 0), .int (nI 2)]) (rest := []) (wc := []) (d := 0) (v := bI (pWi x (nI 0) (nI 2))) cx (c_X8_within l G T A x (nI 0) (nI 2) ) (va_cwS 3 hts gX8_ban_X8_within rfl rfl rfl (by decide +kernel) ⟨Nat.le_of_ble_eq_true rfl, Nat.le_of_ble_eq_true rfl⟩) (hP.sub (ws' := []) [] rfl) hK (hE.kept hS.2.1) rfl hl.1 rfl (Nat.le_of_ble_eq_true rfl) dX8_ban_8 ⟨Nat.le_of_ble_eq_true rfl, Nat.le_of_ble_eq_true rfl⟩ ?_
  refine b_if_eq (b := pWi x (nI 0) (nI 2)) (tgt := 21) hx hb dX8_ban_11 (by decide) (fun c_1 => ?_) (fun c_2 => ?_)
  · skip
    refine lv_aload_n hx hb dX8_ban_21 rfl (lv_at hl 0 rfl) ?_
    refine n_iconst hx hb 1 dX8_ban_22 (by decide) ?_
    refine k_rwV (As := [.int (nI 1)]) (rest := []) (wc := oX8 T q (sc Z 0 (nI 0)) g) (wr := []) (w1 := oX8 T q (sc (sc Z 0 (nI 0)) 0 (nI 1)) g) (d := 0) (mc := 0) (ms := 0) (v := nI 0) (isC := [0, 1, 2, 3, 4, 5, 6]) (isR := []) cx (c_X8_fails l G T H.size q (sc Z 0 (nI 0)) g (nI 1) ) (cwV 1 hts gX8_ban_X8_fails rfl rfl rfl (by decide +kernel) ⟨Nat.le_of_ble_eq_true rfl, Nat.le_of_ble_eq_true rfl⟩) ⟨hP, hD, hS, hA, hE, hK, rfl, rfl, rfl, rfl, by decide⟩ (va_recv hK hP (ci := 8) (q0 := 0) rfl rfl) rfl hl.1 rfl (Nat.le_of_ble_eq_true rfl) dX8_ban_23 ⟨Nat.le_of_ble_eq_true rfl, Nat.le_of_ble_eq_true rfl⟩ (fun H locs hP hD hS hz => ?_)
    have hP : va_P G vwCl [(q 0, .inr (8, [.int (nI 1), .ref (q 2), .ref (q 3), .int (Z 0 3), .ref (q 5), .int (Z 0 5), .ref (q 7), .int (Z 0 7), .int (Z 0 8), .int (Z 0 9), .int (Z 0 10), .int (Z 0 11), .ref (q 13), .int (Z 0 13), .ref (q 15), .long g])), (q 2, .inl (T 0, 267, .inl (Z 2))), (q 3, .inl (T 0, 1602, .inl (Z 3))), (q 5, .inl (T 0, 267, .inl (Z 5))), (q 7, .inl (T 0, 60, .inl (Z 7))), (q 13, .inl (T 0, 8, .inl (Z 13))), (q 15, .inl (T 0, 3, .inl (Z 15)))] H := hP
    have hD : va_D A [(q 0, .inr (8, [.int (nI 1), .ref (q 2), .ref (q 3), .int (Z 0 3), .ref (q 5), .int (Z 0 5), .ref (q 7), .int (Z 0 7), .int (Z 0 8), .int (Z 0 9), .int (Z 0 10), .int (Z 0 11), .ref (q 13), .int (Z 0 13), .ref (q 15), .long g])), (q 2, .inl (T 0, 267, .inl (Z 2))), (q 3, .inl (T 0, 1602, .inl (Z 3))), (q 5, .inl (T 0, 267, .inl (Z 5))), (q 7, .inl (T 0, 60, .inl (Z 7))), (q 13, .inl (T 0, 8, .inl (Z 13))), (q 15, .inl (T 0, 3, .inl (Z 15)))] := hD
    subst hQ
    have e_3 : (nI 1) = nI 1 := (by first | rfl | simp [bI, c_1])
    rw [e_3] at hP hD
    have hP9 : va_P G vwCl (oX8 T q (sc Z 0 (nI 1)) g) H := hP
    have hD9 : va_D A (oX8 T q (sc Z 0 (nI 1)) g) := hD
    exact e_rwi hx hb hr hlocks hS (by first | rfl | simp [bI, c_1]) hP9 hD9 dX8_ban_26
  · skip
    refine lv_iload_n hx hb dX8_ban_14 rfl (lv_at hl 2 rfl) ?_
    refine k_roS (As := [.int y]) (rest := []) (wc := []) (d := 1) (v := bI (pWi y (nI 0) (nI 19))) cx (c_X8_isMessage l G T A y ) (va_cwS 1 hts gX8_ban_X8_isMessage rfl rfl rfl (by decide +kernel) ⟨Nat.le_of_ble_eq_true rfl, Nat.le_of_ble_eq_true rfl⟩) (hP.sub (ws' := []) [] rfl) hK (hE.kept hS.2.1) rfl hl.1 rfl (Nat.le_of_ble_eq_true rfl) dX8_ban_15 ⟨Nat.le_of_ble_eq_true rfl, Nat.le_of_ble_eq_true rfl⟩ ?_
    refine b_if_ne (b := pWi y (nI 0) (nI 19)) (tgt := 27) hx hb dX8_ban_18 (by decide) (fun c_4 => by exfalso; simp [c_2, c_4] at hno) (fun c_5 => ?_)
    refine lv_aload_n hx hb dX8_ban_21 rfl (lv_at hl 0 rfl) ?_
    refine n_iconst hx hb 1 dX8_ban_22 (by decide) ?_
    refine k_rwV (As := [.int (nI 1)]) (rest := []) (wc := oX8 T q (sc Z 0 (nI 0)) g) (wr := []) (w1 := oX8 T q (sc (sc Z 0 (nI 0)) 0 (nI 1)) g) (d := 0) (mc := 0) (ms := 0) (v := nI 0) (isC := [0, 1, 2, 3, 4, 5, 6]) (isR := []) cx (c_X8_fails l G T H.size q (sc Z 0 (nI 0)) g (nI 1) ) (cwV 1 hts gX8_ban_X8_fails rfl rfl rfl (by decide +kernel) ⟨Nat.le_of_ble_eq_true rfl, Nat.le_of_ble_eq_true rfl⟩) ⟨hP, hD, hS, hA, hE, hK, rfl, rfl, rfl, rfl, by decide⟩ (va_recv hK hP (ci := 8) (q0 := 0) rfl rfl) rfl hl.1 rfl (Nat.le_of_ble_eq_true rfl) dX8_ban_23 ⟨Nat.le_of_ble_eq_true rfl, Nat.le_of_ble_eq_true rfl⟩ (fun H locs hP hD hS hz => ?_)
    have hP : va_P G vwCl [(q 0, .inr (8, [.int (nI 1), .ref (q 2), .ref (q 3), .int (Z 0 3), .ref (q 5), .int (Z 0 5), .ref (q 7), .int (Z 0 7), .int (Z 0 8), .int (Z 0 9), .int (Z 0 10), .int (Z 0 11), .ref (q 13), .int (Z 0 13), .ref (q 15), .long g])), (q 2, .inl (T 0, 267, .inl (Z 2))), (q 3, .inl (T 0, 1602, .inl (Z 3))), (q 5, .inl (T 0, 267, .inl (Z 5))), (q 7, .inl (T 0, 60, .inl (Z 7))), (q 13, .inl (T 0, 8, .inl (Z 13))), (q 15, .inl (T 0, 3, .inl (Z 15)))] H := hP
    have hD : va_D A [(q 0, .inr (8, [.int (nI 1), .ref (q 2), .ref (q 3), .int (Z 0 3), .ref (q 5), .int (Z 0 5), .ref (q 7), .int (Z 0 7), .int (Z 0 8), .int (Z 0 9), .int (Z 0 10), .int (Z 0 11), .ref (q 13), .int (Z 0 13), .ref (q 15), .long g])), (q 2, .inl (T 0, 267, .inl (Z 2))), (q 3, .inl (T 0, 1602, .inl (Z 3))), (q 5, .inl (T 0, 267, .inl (Z 5))), (q 7, .inl (T 0, 60, .inl (Z 7))), (q 13, .inl (T 0, 8, .inl (Z 13))), (q 15, .inl (T 0, 3, .inl (Z 15)))] := hD
    subst hQ
    have e_6 : (nI 1) = nI 1 := (by first | rfl | simp [bI, c_2, c_5])
    rw [e_6] at hP hD
    have hP9 : va_P G vwCl (oX8 T q (sc Z 0 (nI 1)) g) H := hP
    have hD9 : va_D A (oX8 T q (sc Z 0 (nI 1)) g) := hD
    exact e_rwi hx hb hr hlocks hS (by first | rfl | simp [bI, c_2, c_5]) hP9 hD9 dX8_ban_26
set_option maxHeartbeats 4000000 in
set_option maxRecDepth 100000 in
theorem c_X8_whistle_1 (l : Launch) (G : va_G) (T : Nat → ClassId) (sz : Nat) (q : Nat → Nat) (Z : Nat → Nat → Int32) (g : Int64) (x : Int32) (y : Int32) (hno : (pWi x (nI 0) (nI 5) && pWi y (nI 0) (nI 19)) = false) : RWi l yX8_whistle wsX8_whistle 7 0 0 G T sz (oX8 T q Z g) [.ref (q 0), .int x, .int y] (nI 0) (oX8 T q (sc Z 0 (nI 1)) g) := by
  refine Met.ofW (cc := cX8_whistle) (maxL := 3) (ret := (some .int)) (by decide) rfl ?_
  intro p e s m args below meth c s₁ B hml hv
  obtain ⟨ha, hsz, hP, hK, hD0, hE0⟩ := hv
  have hx := B.exec
  have hb := B.bytes
  have hr := B.returns
  have hlocks := B.notSynchronized
  have hts := atoms_spec (ws := wsX8_whistle) B.pre
  have hown : s.vm.findClass RX8 = some m.cls := findClass_of_methodNamed B.named
  have cx : CallFix p m c cX8_whistle 3 s args wsX8_whistle RX8 := ⟨hx, hb, hml, hown, hts⟩
  subst hsz
  have hD := hD0.self (sz := s.heap.size)
  generalize hAe : va_A (oX8 T q Z g) s.heap.size = A at hD hE0 ⊢
  have hE : gE A s s.heap := hE0
  have hA : ∀ q : Nat, s.heap.size ≤ q → A q := fun q h => by rw [← hAe]; exact Or.inr h
  have hS : va_S A s.heap s.heap [] := va_S.rf
  refine w_entry ha (Nat.le_of_ble_eq_true rfl) (fun ls hl => ?_)
  refine w_q (fun Q0 hQ => ?_)
  have lk28 := hts (.fieldLink RX8 28 "WhistleTunesModel" "thrown" "I") (by decide +kernel)
  have hinX8 : ∀ w ∈ wsX80, w ∈ wsX8_whistle := by decide +kernel
  have hl : lv_has ls 3 [(0, .ref (q 0)), (1, .int x), (2, .int y)] := hl
  have hP : va_P G vwCl [(q 0, .inr (8, [.int (Z 0 0), .ref (q 2), .ref (q 3), .int (Z 0 3), .ref (q 5), .int (Z 0 5), .ref (q 7), .int (Z 0 7), .int (Z 0 8), .int (Z 0 9), .int (Z 0 10), .int (Z 0 11), .ref (q 13), .int (Z 0 13), .ref (q 15), .long g])), (q 2, .inl (T 0, 267, .inl (Z 2))), (q 3, .inl (T 0, 1602, .inl (Z 3))), (q 5, .inl (T 0, 267, .inl (Z 5))), (q 7, .inl (T 0, 60, .inl (Z 7))), (q 13, .inl (T 0, 8, .inl (Z 13))), (q 15, .inl (T 0, 3, .inl (Z 15)))] s.heap := hP
  have hD : va_D A [(q 0, .inr (8, [.int (Z 0 0), .ref (q 2), .ref (q 3), .int (Z 0 3), .ref (q 5), .int (Z 0 5), .ref (q 7), .int (Z 0 7), .int (Z 0 8), .int (Z 0 9), .int (Z 0 10), .int (Z 0 11), .ref (q 13), .int (Z 0 13), .ref (q 15), .long g])), (q 2, .inl (T 0, 267, .inl (Z 2))), (q 3, .inl (T 0, 1602, .inl (Z 3))), (q 5, .inl (T 0, 267, .inl (Z 5))), (q 7, .inl (T 0, 60, .inl (Z 7))), (q 13, .inl (T 0, 8, .inl (Z 13))), (q 15, .inl (T 0, 3, .inl (Z 15)))] := hD
  skip
  refine w_h (fun H locs hHe hLe => ?_)
  have hP : va_P G vwCl [(q 0, .inr (8, [.int (Z 0 0), .ref (q 2), .ref (q 3), .int (Z 0 3), .ref (q 5), .int (Z 0 5), .ref (q 7), .int (Z 0 7), .int (Z 0 8), .int (Z 0 9), .int (Z 0 10), .int (Z 0 11), .ref (q 13), .int (Z 0 13), .ref (q 15), .long g])), (q 2, .inl (T 0, 267, .inl (Z 2))), (q 3, .inl (T 0, 1602, .inl (Z 3))), (q 5, .inl (T 0, 267, .inl (Z 5))), (q 7, .inl (T 0, 60, .inl (Z 7))), (q 13, .inl (T 0, 8, .inl (Z 13))), (q 15, .inl (T 0, 3, .inl (Z 15)))] H := by rw [hHe]; exact hP
  have hS : va_S A s.heap H locs := by rw [hHe, hLe]; exact hS
  refine lv_aload_n hx hb dX8_whistle_0 rfl (lv_at hl 0 rfl) ?_
  refine n_iconst hx hb 0 dX8_whistle_1 (by decide) ?_
  refine va_put (D := G) (ci := 8) (v := .int (nI 0)) (ty := .int) (C := RX8) (T := TX8) (N := 16) hx hb hts hinX8 tyX8 tyX8_ok nmX8 hown hK hP hD hS 0 rfl rfl 0 (by decide) lk28 (fun _ h9 => h9) rfl (by decide +kernel) rfl rfl (Nat.le_of_ble_eq_true rfl) dX8_whistle_2 (fun H locs hP hD hS => ?_)
  have hP : va_P G vwCl [(q 0, .inr (8, [.int (nI 0), .ref (q 2), .ref (q 3), .int (Z 0 3), .ref (q 5), .int (Z 0 5), .ref (q 7), .int (Z 0 7), .int (Z 0 8), .int (Z 0 9), .int (Z 0 10), .int (Z 0 11), .ref (q 13), .int (Z 0 13), .ref (q 15), .long g])), (q 2, .inl (T 0, 267, .inl (Z 2))), (q 3, .inl (T 0, 1602, .inl (Z 3))), (q 5, .inl (T 0, 267, .inl (Z 5))), (q 7, .inl (T 0, 60, .inl (Z 7))), (q 13, .inl (T 0, 8, .inl (Z 13))), (q 15, .inl (T 0, 3, .inl (Z 15)))] H := hP
  have hD : va_D A [(q 0, .inr (8, [.int (nI 0), .ref (q 2), .ref (q 3), .int (Z 0 3), .ref (q 5), .int (Z 0 5), .ref (q 7), .int (Z 0 7), .int (Z 0 8), .int (Z 0 9), .int (Z 0 10), .int (Z 0 11), .ref (q 13), .int (Z 0 13), .ref (q 15), .long g])), (q 2, .inl (T 0, 267, .inl (Z 2))), (q 3, .inl (T 0, 1602, .inl (Z 3))), (q 5, .inl (T 0, 267, .inl (Z 5))), (q 7, .inl (T 0, 60, .inl (Z 7))), (q 13, .inl (T 0, 8, .inl (Z 13))), (q 15, .inl (T 0, 3, .inl (Z 15)))] := hD
  refine lv_iload_n hx hb dX8_whistle_5 rfl (lv_at hl 1 rfl) ?_
  refine k_roS (As := [.int x]) (rest := []) (wc := []) (d := 1) (v := bI (pWi x (nI 0) (nI 5))) cx (c_X8_isRoom l G T A x ) (va_cwS 1 hts gX8_whistle_X8_isRoom rfl rfl rfl (by decide +kernel) ⟨Nat.le_of_ble_eq_true rfl, Nat.le_of_ble_eq_true rfl⟩) (hP.sub (ws' := []) [] rfl) hK (hE.kept hS.2.1) rfl hl.1 rfl (Nat.le_of_ble_eq_true rfl) dX8_whistle_6 ⟨Nat.le_of_ble_eq_true rfl, Nat.le_of_ble_eq_true rfl⟩ ?_
  refine b_if_eq (b := pWi x (nI 0) (nI 5)) (tgt := 19) hx hb dX8_whistle_9 (by decide) (fun c_1 => ?_) (fun c_2 => ?_)
  · skip
    refine lv_aload_n hx hb dX8_whistle_19 rfl (lv_at hl 0 rfl) ?_
    refine n_iconst hx hb 1 dX8_whistle_20 (by decide) ?_
    refine k_rwV (As := [.int (nI 1)]) (rest := []) (wc := oX8 T q (sc Z 0 (nI 0)) g) (wr := []) (w1 := oX8 T q (sc (sc Z 0 (nI 0)) 0 (nI 1)) g) (d := 0) (mc := 0) (ms := 0) (v := nI 0) (isC := [0, 1, 2, 3, 4, 5, 6]) (isR := []) cx (c_X8_fails l G T H.size q (sc Z 0 (nI 0)) g (nI 1) ) (cwV 1 hts gX8_whistle_X8_fails rfl rfl rfl (by decide +kernel) ⟨Nat.le_of_ble_eq_true rfl, Nat.le_of_ble_eq_true rfl⟩) ⟨hP, hD, hS, hA, hE, hK, rfl, rfl, rfl, rfl, by decide⟩ (va_recv hK hP (ci := 8) (q0 := 0) rfl rfl) rfl hl.1 rfl (Nat.le_of_ble_eq_true rfl) dX8_whistle_21 ⟨Nat.le_of_ble_eq_true rfl, Nat.le_of_ble_eq_true rfl⟩ (fun H locs hP hD hS hz => ?_)
    have hP : va_P G vwCl [(q 0, .inr (8, [.int (nI 1), .ref (q 2), .ref (q 3), .int (Z 0 3), .ref (q 5), .int (Z 0 5), .ref (q 7), .int (Z 0 7), .int (Z 0 8), .int (Z 0 9), .int (Z 0 10), .int (Z 0 11), .ref (q 13), .int (Z 0 13), .ref (q 15), .long g])), (q 2, .inl (T 0, 267, .inl (Z 2))), (q 3, .inl (T 0, 1602, .inl (Z 3))), (q 5, .inl (T 0, 267, .inl (Z 5))), (q 7, .inl (T 0, 60, .inl (Z 7))), (q 13, .inl (T 0, 8, .inl (Z 13))), (q 15, .inl (T 0, 3, .inl (Z 15)))] H := hP
    have hD : va_D A [(q 0, .inr (8, [.int (nI 1), .ref (q 2), .ref (q 3), .int (Z 0 3), .ref (q 5), .int (Z 0 5), .ref (q 7), .int (Z 0 7), .int (Z 0 8), .int (Z 0 9), .int (Z 0 10), .int (Z 0 11), .ref (q 13), .int (Z 0 13), .ref (q 15), .long g])), (q 2, .inl (T 0, 267, .inl (Z 2))), (q 3, .inl (T 0, 1602, .inl (Z 3))), (q 5, .inl (T 0, 267, .inl (Z 5))), (q 7, .inl (T 0, 60, .inl (Z 7))), (q 13, .inl (T 0, 8, .inl (Z 13))), (q 15, .inl (T 0, 3, .inl (Z 15)))] := hD
    subst hQ
    have e_3 : (nI 1) = nI 1 := (by first | rfl | simp [bI, c_1])
    rw [e_3] at hP hD
    have hP9 : va_P G vwCl (oX8 T q (sc Z 0 (nI 1)) g) H := hP
    have hD9 : va_D A (oX8 T q (sc Z 0 (nI 1)) g) := hD
    exact e_rwi hx hb hr hlocks hS (by first | rfl | simp [bI, c_1]) hP9 hD9 dX8_whistle_24
  · skip
    refine lv_iload_n hx hb dX8_whistle_12 rfl (lv_at hl 2 rfl) ?_
    refine k_roS (As := [.int y]) (rest := []) (wc := []) (d := 1) (v := bI (pWi y (nI 0) (nI 19))) cx (c_X8_isMessage l G T A y ) (va_cwS 1 hts gX8_whistle_X8_isMessage rfl rfl rfl (by decide +kernel) ⟨Nat.le_of_ble_eq_true rfl, Nat.le_of_ble_eq_true rfl⟩) (hP.sub (ws' := []) [] rfl) hK (hE.kept hS.2.1) rfl hl.1 rfl (Nat.le_of_ble_eq_true rfl) dX8_whistle_13 ⟨Nat.le_of_ble_eq_true rfl, Nat.le_of_ble_eq_true rfl⟩ ?_
    refine b_if_ne (b := pWi y (nI 0) (nI 19)) (tgt := 25) hx hb dX8_whistle_16 (by decide) (fun c_4 => by exfalso; simp [c_2, c_4] at hno) (fun c_5 => ?_)
    refine lv_aload_n hx hb dX8_whistle_19 rfl (lv_at hl 0 rfl) ?_
    refine n_iconst hx hb 1 dX8_whistle_20 (by decide) ?_
    refine k_rwV (As := [.int (nI 1)]) (rest := []) (wc := oX8 T q (sc Z 0 (nI 0)) g) (wr := []) (w1 := oX8 T q (sc (sc Z 0 (nI 0)) 0 (nI 1)) g) (d := 0) (mc := 0) (ms := 0) (v := nI 0) (isC := [0, 1, 2, 3, 4, 5, 6]) (isR := []) cx (c_X8_fails l G T H.size q (sc Z 0 (nI 0)) g (nI 1) ) (cwV 1 hts gX8_whistle_X8_fails rfl rfl rfl (by decide +kernel) ⟨Nat.le_of_ble_eq_true rfl, Nat.le_of_ble_eq_true rfl⟩) ⟨hP, hD, hS, hA, hE, hK, rfl, rfl, rfl, rfl, by decide⟩ (va_recv hK hP (ci := 8) (q0 := 0) rfl rfl) rfl hl.1 rfl (Nat.le_of_ble_eq_true rfl) dX8_whistle_21 ⟨Nat.le_of_ble_eq_true rfl, Nat.le_of_ble_eq_true rfl⟩ (fun H locs hP hD hS hz => ?_)
    have hP : va_P G vwCl [(q 0, .inr (8, [.int (nI 1), .ref (q 2), .ref (q 3), .int (Z 0 3), .ref (q 5), .int (Z 0 5), .ref (q 7), .int (Z 0 7), .int (Z 0 8), .int (Z 0 9), .int (Z 0 10), .int (Z 0 11), .ref (q 13), .int (Z 0 13), .ref (q 15), .long g])), (q 2, .inl (T 0, 267, .inl (Z 2))), (q 3, .inl (T 0, 1602, .inl (Z 3))), (q 5, .inl (T 0, 267, .inl (Z 5))), (q 7, .inl (T 0, 60, .inl (Z 7))), (q 13, .inl (T 0, 8, .inl (Z 13))), (q 15, .inl (T 0, 3, .inl (Z 15)))] H := hP
    have hD : va_D A [(q 0, .inr (8, [.int (nI 1), .ref (q 2), .ref (q 3), .int (Z 0 3), .ref (q 5), .int (Z 0 5), .ref (q 7), .int (Z 0 7), .int (Z 0 8), .int (Z 0 9), .int (Z 0 10), .int (Z 0 11), .ref (q 13), .int (Z 0 13), .ref (q 15), .long g])), (q 2, .inl (T 0, 267, .inl (Z 2))), (q 3, .inl (T 0, 1602, .inl (Z 3))), (q 5, .inl (T 0, 267, .inl (Z 5))), (q 7, .inl (T 0, 60, .inl (Z 7))), (q 13, .inl (T 0, 8, .inl (Z 13))), (q 15, .inl (T 0, 3, .inl (Z 15)))] := hD
    subst hQ
    have e_6 : (nI 1) = nI 1 := (by first | rfl | simp [bI, c_2, c_5])
    rw [e_6] at hP hD
    have hP9 : va_P G vwCl (oX8 T q (sc Z 0 (nI 1)) g) H := hP
    have hD9 : va_D A (oX8 T q (sc Z 0 (nI 1)) g) := hD
    exact e_rwi hx hb hr hlocks hS (by first | rfl | simp [bI, c_2, c_5]) hP9 hD9 dX8_whistle_24
set_option maxHeartbeats 4000000 in
set_option maxRecDepth 100000 in
theorem c_X8_whyNot_1 (l : Launch) (G : va_G) (T : Nat → ClassId) (sz : Nat) (q : Nat → Nat) (Z : Nat → Nat → Int32) (g : Int64) (x : Int32) (y : Int32) (hno : (pWi x (nI 0) (nI 5) && pWi y (nI 0) (nI 19)) = false) : RWi l yX8_whyNot wsX8_whyNot 6 0 0 G T sz (oX8 T q Z g) [.ref (q 0), .int x, .int y] (nI 0) (oX8 T q (sc Z 0 (nI 1)) g) := by
  refine Met.ofW (cc := cX8_whyNot) (maxL := 3) (ret := (some .int)) (by decide) rfl ?_
  intro p e s m args below meth c s₁ B hml hv
  obtain ⟨ha, hsz, hP, hK, hD0, hE0⟩ := hv
  have hx := B.exec
  have hb := B.bytes
  have hr := B.returns
  have hlocks := B.notSynchronized
  have hts := atoms_spec (ws := wsX8_whyNot) B.pre
  have hown : s.vm.findClass RX8 = some m.cls := findClass_of_methodNamed B.named
  have cx : CallFix p m c cX8_whyNot 3 s args wsX8_whyNot RX8 := ⟨hx, hb, hml, hown, hts⟩
  subst hsz
  have hD := hD0.self (sz := s.heap.size)
  generalize hAe : va_A (oX8 T q Z g) s.heap.size = A at hD hE0 ⊢
  have hE : gE A s s.heap := hE0
  have hA : ∀ q : Nat, s.heap.size ≤ q → A q := fun q h => by rw [← hAe]; exact Or.inr h
  have hS : va_S A s.heap s.heap [] := va_S.rf
  refine w_entry ha (Nat.le_of_ble_eq_true rfl) (fun ls hl => ?_)
  refine w_q (fun Q0 hQ => ?_)
  have lk28 := hts (.fieldLink RX8 28 "WhistleTunesModel" "thrown" "I") (by decide +kernel)
  have hinX8 : ∀ w ∈ wsX80, w ∈ wsX8_whyNot := by decide +kernel
  have hl : lv_has ls 3 [(0, .ref (q 0)), (1, .int x), (2, .int y)] := hl
  have hP : va_P G vwCl [(q 0, .inr (8, [.int (Z 0 0), .ref (q 2), .ref (q 3), .int (Z 0 3), .ref (q 5), .int (Z 0 5), .ref (q 7), .int (Z 0 7), .int (Z 0 8), .int (Z 0 9), .int (Z 0 10), .int (Z 0 11), .ref (q 13), .int (Z 0 13), .ref (q 15), .long g])), (q 2, .inl (T 0, 267, .inl (Z 2))), (q 3, .inl (T 0, 1602, .inl (Z 3))), (q 5, .inl (T 0, 267, .inl (Z 5))), (q 7, .inl (T 0, 60, .inl (Z 7))), (q 13, .inl (T 0, 8, .inl (Z 13))), (q 15, .inl (T 0, 3, .inl (Z 15)))] s.heap := hP
  have hD : va_D A [(q 0, .inr (8, [.int (Z 0 0), .ref (q 2), .ref (q 3), .int (Z 0 3), .ref (q 5), .int (Z 0 5), .ref (q 7), .int (Z 0 7), .int (Z 0 8), .int (Z 0 9), .int (Z 0 10), .int (Z 0 11), .ref (q 13), .int (Z 0 13), .ref (q 15), .long g])), (q 2, .inl (T 0, 267, .inl (Z 2))), (q 3, .inl (T 0, 1602, .inl (Z 3))), (q 5, .inl (T 0, 267, .inl (Z 5))), (q 7, .inl (T 0, 60, .inl (Z 7))), (q 13, .inl (T 0, 8, .inl (Z 13))), (q 15, .inl (T 0, 3, .inl (Z 15)))] := hD
  skip
  refine w_h (fun H locs hHe hLe => ?_)
  have hP : va_P G vwCl [(q 0, .inr (8, [.int (Z 0 0), .ref (q 2), .ref (q 3), .int (Z 0 3), .ref (q 5), .int (Z 0 5), .ref (q 7), .int (Z 0 7), .int (Z 0 8), .int (Z 0 9), .int (Z 0 10), .int (Z 0 11), .ref (q 13), .int (Z 0 13), .ref (q 15), .long g])), (q 2, .inl (T 0, 267, .inl (Z 2))), (q 3, .inl (T 0, 1602, .inl (Z 3))), (q 5, .inl (T 0, 267, .inl (Z 5))), (q 7, .inl (T 0, 60, .inl (Z 7))), (q 13, .inl (T 0, 8, .inl (Z 13))), (q 15, .inl (T 0, 3, .inl (Z 15)))] H := by rw [hHe]; exact hP
  have hS : va_S A s.heap H locs := by rw [hHe, hLe]; exact hS
  refine lv_aload_n hx hb dX8_whyNot_0 rfl (lv_at hl 0 rfl) ?_
  refine n_iconst hx hb 0 dX8_whyNot_1 (by decide) ?_
  refine va_put (D := G) (ci := 8) (v := .int (nI 0)) (ty := .int) (C := RX8) (T := TX8) (N := 16) hx hb hts hinX8 tyX8 tyX8_ok nmX8 hown hK hP hD hS 0 rfl rfl 0 (by decide) lk28 (fun _ h9 => h9) rfl (by decide +kernel) rfl rfl (Nat.le_of_ble_eq_true rfl) dX8_whyNot_2 (fun H locs hP hD hS => ?_)
  have hP : va_P G vwCl [(q 0, .inr (8, [.int (nI 0), .ref (q 2), .ref (q 3), .int (Z 0 3), .ref (q 5), .int (Z 0 5), .ref (q 7), .int (Z 0 7), .int (Z 0 8), .int (Z 0 9), .int (Z 0 10), .int (Z 0 11), .ref (q 13), .int (Z 0 13), .ref (q 15), .long g])), (q 2, .inl (T 0, 267, .inl (Z 2))), (q 3, .inl (T 0, 1602, .inl (Z 3))), (q 5, .inl (T 0, 267, .inl (Z 5))), (q 7, .inl (T 0, 60, .inl (Z 7))), (q 13, .inl (T 0, 8, .inl (Z 13))), (q 15, .inl (T 0, 3, .inl (Z 15)))] H := hP
  have hD : va_D A [(q 0, .inr (8, [.int (nI 0), .ref (q 2), .ref (q 3), .int (Z 0 3), .ref (q 5), .int (Z 0 5), .ref (q 7), .int (Z 0 7), .int (Z 0 8), .int (Z 0 9), .int (Z 0 10), .int (Z 0 11), .ref (q 13), .int (Z 0 13), .ref (q 15), .long g])), (q 2, .inl (T 0, 267, .inl (Z 2))), (q 3, .inl (T 0, 1602, .inl (Z 3))), (q 5, .inl (T 0, 267, .inl (Z 5))), (q 7, .inl (T 0, 60, .inl (Z 7))), (q 13, .inl (T 0, 8, .inl (Z 13))), (q 15, .inl (T 0, 3, .inl (Z 15)))] := hD
  refine lv_iload_n hx hb dX8_whyNot_5 rfl (lv_at hl 1 rfl) ?_
  refine k_roS (As := [.int x]) (rest := []) (wc := []) (d := 1) (v := bI (pWi x (nI 0) (nI 5))) cx (c_X8_isRoom l G T A x ) (va_cwS 1 hts gX8_whyNot_X8_isRoom rfl rfl rfl (by decide +kernel) ⟨Nat.le_of_ble_eq_true rfl, Nat.le_of_ble_eq_true rfl⟩) (hP.sub (ws' := []) [] rfl) hK (hE.kept hS.2.1) rfl hl.1 rfl (Nat.le_of_ble_eq_true rfl) dX8_whyNot_6 ⟨Nat.le_of_ble_eq_true rfl, Nat.le_of_ble_eq_true rfl⟩ ?_
  refine b_if_eq (b := pWi x (nI 0) (nI 5)) (tgt := 28) hx hb dX8_whyNot_9 (by decide) (fun c_1 => ?_) (fun c_2 => ?_)
  · skip
    refine lv_aload_n hx hb dX8_whyNot_28 rfl (lv_at hl 0 rfl) ?_
    refine n_iconst hx hb 1 dX8_whyNot_29 (by decide) ?_
    refine k_rwV (As := [.int (nI 1)]) (rest := []) (wc := oX8 T q (sc Z 0 (nI 0)) g) (wr := []) (w1 := oX8 T q (sc (sc Z 0 (nI 0)) 0 (nI 1)) g) (d := 0) (mc := 0) (ms := 0) (v := nI 0) (isC := [0, 1, 2, 3, 4, 5, 6]) (isR := []) cx (c_X8_fails l G T H.size q (sc Z 0 (nI 0)) g (nI 1) ) (cwV 1 hts gX8_whyNot_X8_fails rfl rfl rfl (by decide +kernel) ⟨Nat.le_of_ble_eq_true rfl, Nat.le_of_ble_eq_true rfl⟩) ⟨hP, hD, hS, hA, hE, hK, rfl, rfl, rfl, rfl, by decide⟩ (va_recv hK hP (ci := 8) (q0 := 0) rfl rfl) rfl hl.1 rfl (Nat.le_of_ble_eq_true rfl) dX8_whyNot_30 ⟨Nat.le_of_ble_eq_true rfl, Nat.le_of_ble_eq_true rfl⟩ (fun H locs hP hD hS hz => ?_)
    have hP : va_P G vwCl [(q 0, .inr (8, [.int (nI 1), .ref (q 2), .ref (q 3), .int (Z 0 3), .ref (q 5), .int (Z 0 5), .ref (q 7), .int (Z 0 7), .int (Z 0 8), .int (Z 0 9), .int (Z 0 10), .int (Z 0 11), .ref (q 13), .int (Z 0 13), .ref (q 15), .long g])), (q 2, .inl (T 0, 267, .inl (Z 2))), (q 3, .inl (T 0, 1602, .inl (Z 3))), (q 5, .inl (T 0, 267, .inl (Z 5))), (q 7, .inl (T 0, 60, .inl (Z 7))), (q 13, .inl (T 0, 8, .inl (Z 13))), (q 15, .inl (T 0, 3, .inl (Z 15)))] H := hP
    have hD : va_D A [(q 0, .inr (8, [.int (nI 1), .ref (q 2), .ref (q 3), .int (Z 0 3), .ref (q 5), .int (Z 0 5), .ref (q 7), .int (Z 0 7), .int (Z 0 8), .int (Z 0 9), .int (Z 0 10), .int (Z 0 11), .ref (q 13), .int (Z 0 13), .ref (q 15), .long g])), (q 2, .inl (T 0, 267, .inl (Z 2))), (q 3, .inl (T 0, 1602, .inl (Z 3))), (q 5, .inl (T 0, 267, .inl (Z 5))), (q 7, .inl (T 0, 60, .inl (Z 7))), (q 13, .inl (T 0, 8, .inl (Z 13))), (q 15, .inl (T 0, 3, .inl (Z 15)))] := hD
    subst hQ
    have e_3 : (nI 1) = nI 1 := (by first | rfl | simp [bI, c_1])
    rw [e_3] at hP hD
    have hP9 : va_P G vwCl (oX8 T q (sc Z 0 (nI 1)) g) H := hP
    have hD9 : va_D A (oX8 T q (sc Z 0 (nI 1)) g) := hD
    exact e_rwi hx hb hr hlocks hS (by first | rfl | simp [bI, c_1]) hP9 hD9 dX8_whyNot_33
  · skip
    refine lv_iload_n hx hb dX8_whyNot_12 rfl (lv_at hl 2 rfl) ?_
    refine k_roS (As := [.int y]) (rest := []) (wc := []) (d := 1) (v := bI (pWi y (nI 0) (nI 19))) cx (c_X8_isMessage l G T A y ) (va_cwS 1 hts gX8_whyNot_X8_isMessage rfl rfl rfl (by decide +kernel) ⟨Nat.le_of_ble_eq_true rfl, Nat.le_of_ble_eq_true rfl⟩) (hP.sub (ws' := []) [] rfl) hK (hE.kept hS.2.1) rfl hl.1 rfl (Nat.le_of_ble_eq_true rfl) dX8_whyNot_13 ⟨Nat.le_of_ble_eq_true rfl, Nat.le_of_ble_eq_true rfl⟩ ?_
    refine b_if_eq (b := pWi y (nI 0) (nI 19)) (tgt := 28) hx hb dX8_whyNot_16 (by decide) (fun c_4 => ?_) (fun c_5 => by exfalso; simp [c_2, c_5] at hno)
    refine lv_aload_n hx hb dX8_whyNot_28 rfl (lv_at hl 0 rfl) ?_
    refine n_iconst hx hb 1 dX8_whyNot_29 (by decide) ?_
    refine k_rwV (As := [.int (nI 1)]) (rest := []) (wc := oX8 T q (sc Z 0 (nI 0)) g) (wr := []) (w1 := oX8 T q (sc (sc Z 0 (nI 0)) 0 (nI 1)) g) (d := 0) (mc := 0) (ms := 0) (v := nI 0) (isC := [0, 1, 2, 3, 4, 5, 6]) (isR := []) cx (c_X8_fails l G T H.size q (sc Z 0 (nI 0)) g (nI 1) ) (cwV 1 hts gX8_whyNot_X8_fails rfl rfl rfl (by decide +kernel) ⟨Nat.le_of_ble_eq_true rfl, Nat.le_of_ble_eq_true rfl⟩) ⟨hP, hD, hS, hA, hE, hK, rfl, rfl, rfl, rfl, by decide⟩ (va_recv hK hP (ci := 8) (q0 := 0) rfl rfl) rfl hl.1 rfl (Nat.le_of_ble_eq_true rfl) dX8_whyNot_30 ⟨Nat.le_of_ble_eq_true rfl, Nat.le_of_ble_eq_true rfl⟩ (fun H locs hP hD hS hz => ?_)
    have hP : va_P G vwCl [(q 0, .inr (8, [.int (nI 1), .ref (q 2), .ref (q 3), .int (Z 0 3), .ref (q 5), .int (Z 0 5), .ref (q 7), .int (Z 0 7), .int (Z 0 8), .int (Z 0 9), .int (Z 0 10), .int (Z 0 11), .ref (q 13), .int (Z 0 13), .ref (q 15), .long g])), (q 2, .inl (T 0, 267, .inl (Z 2))), (q 3, .inl (T 0, 1602, .inl (Z 3))), (q 5, .inl (T 0, 267, .inl (Z 5))), (q 7, .inl (T 0, 60, .inl (Z 7))), (q 13, .inl (T 0, 8, .inl (Z 13))), (q 15, .inl (T 0, 3, .inl (Z 15)))] H := hP
    have hD : va_D A [(q 0, .inr (8, [.int (nI 1), .ref (q 2), .ref (q 3), .int (Z 0 3), .ref (q 5), .int (Z 0 5), .ref (q 7), .int (Z 0 7), .int (Z 0 8), .int (Z 0 9), .int (Z 0 10), .int (Z 0 11), .ref (q 13), .int (Z 0 13), .ref (q 15), .long g])), (q 2, .inl (T 0, 267, .inl (Z 2))), (q 3, .inl (T 0, 1602, .inl (Z 3))), (q 5, .inl (T 0, 267, .inl (Z 5))), (q 7, .inl (T 0, 60, .inl (Z 7))), (q 13, .inl (T 0, 8, .inl (Z 13))), (q 15, .inl (T 0, 3, .inl (Z 15)))] := hD
    subst hQ
    have e_6 : (nI 1) = nI 1 := (by first | rfl | simp [bI, c_2, c_4])
    rw [e_6] at hP hD
    have hP9 : va_P G vwCl (oX8 T q (sc Z 0 (nI 1)) g) H := hP
    have hD9 : va_D A (oX8 T q (sc Z 0 (nI 1)) g) := hD
    exact e_rwi hx hb hr hlocks hS (by first | rfl | simp [bI, c_2, c_4]) hP9 hD9 dX8_whyNot_33
set_option maxHeartbeats 4000000 in
set_option maxRecDepth 100000 in
theorem c_X8_ifWhistled_1 (l : Launch) (G : va_G) (T : Nat → ClassId) (sz : Nat) (q : Nat → Nat) (Z : Nat → Nat → Int32) (g : Int64) (x : Int32) (y : Int32) (z : Int32) (hno : (pWi x (nI 0) (nI 5) && pWi y (nI 0) (nI 19)) = false) : RWi l yX8_ifWhistled wsX8_ifWhistled 6 0 0 G T sz (oX8 T q Z g) [.ref (q 0), .int x, .int y, .int z] (nI 0) (oX8 T q (sc Z 0 (nI 1)) g) := by
  refine Met.ofW (cc := cX8_ifWhistled) (maxL := 4) (ret := (some .int)) (by decide) rfl ?_
  intro p e s m args below meth c s₁ B hml hv
  obtain ⟨ha, hsz, hP, hK, hD0, hE0⟩ := hv
  have hx := B.exec
  have hb := B.bytes
  have hr := B.returns
  have hlocks := B.notSynchronized
  have hts := atoms_spec (ws := wsX8_ifWhistled) B.pre
  have hown : s.vm.findClass RX8 = some m.cls := findClass_of_methodNamed B.named
  have cx : CallFix p m c cX8_ifWhistled 4 s args wsX8_ifWhistled RX8 := ⟨hx, hb, hml, hown, hts⟩
  subst hsz
  have hD := hD0.self (sz := s.heap.size)
  generalize hAe : va_A (oX8 T q Z g) s.heap.size = A at hD hE0 ⊢
  have hE : gE A s s.heap := hE0
  have hA : ∀ q : Nat, s.heap.size ≤ q → A q := fun q h => by rw [← hAe]; exact Or.inr h
  have hS : va_S A s.heap s.heap [] := va_S.rf
  refine w_entry ha (Nat.le_of_ble_eq_true rfl) (fun ls hl => ?_)
  refine w_q (fun Q0 hQ => ?_)
  have lk28 := hts (.fieldLink RX8 28 "WhistleTunesModel" "thrown" "I") (by decide +kernel)
  have hinX8 : ∀ w ∈ wsX80, w ∈ wsX8_ifWhistled := by decide +kernel
  have hl : lv_has ls 4 [(0, .ref (q 0)), (1, .int x), (2, .int y), (3, .int z)] := hl
  have hP : va_P G vwCl [(q 0, .inr (8, [.int (Z 0 0), .ref (q 2), .ref (q 3), .int (Z 0 3), .ref (q 5), .int (Z 0 5), .ref (q 7), .int (Z 0 7), .int (Z 0 8), .int (Z 0 9), .int (Z 0 10), .int (Z 0 11), .ref (q 13), .int (Z 0 13), .ref (q 15), .long g])), (q 2, .inl (T 0, 267, .inl (Z 2))), (q 3, .inl (T 0, 1602, .inl (Z 3))), (q 5, .inl (T 0, 267, .inl (Z 5))), (q 7, .inl (T 0, 60, .inl (Z 7))), (q 13, .inl (T 0, 8, .inl (Z 13))), (q 15, .inl (T 0, 3, .inl (Z 15)))] s.heap := hP
  have hD : va_D A [(q 0, .inr (8, [.int (Z 0 0), .ref (q 2), .ref (q 3), .int (Z 0 3), .ref (q 5), .int (Z 0 5), .ref (q 7), .int (Z 0 7), .int (Z 0 8), .int (Z 0 9), .int (Z 0 10), .int (Z 0 11), .ref (q 13), .int (Z 0 13), .ref (q 15), .long g])), (q 2, .inl (T 0, 267, .inl (Z 2))), (q 3, .inl (T 0, 1602, .inl (Z 3))), (q 5, .inl (T 0, 267, .inl (Z 5))), (q 7, .inl (T 0, 60, .inl (Z 7))), (q 13, .inl (T 0, 8, .inl (Z 13))), (q 15, .inl (T 0, 3, .inl (Z 15)))] := hD
  skip
  refine w_h (fun H locs hHe hLe => ?_)
  have hP : va_P G vwCl [(q 0, .inr (8, [.int (Z 0 0), .ref (q 2), .ref (q 3), .int (Z 0 3), .ref (q 5), .int (Z 0 5), .ref (q 7), .int (Z 0 7), .int (Z 0 8), .int (Z 0 9), .int (Z 0 10), .int (Z 0 11), .ref (q 13), .int (Z 0 13), .ref (q 15), .long g])), (q 2, .inl (T 0, 267, .inl (Z 2))), (q 3, .inl (T 0, 1602, .inl (Z 3))), (q 5, .inl (T 0, 267, .inl (Z 5))), (q 7, .inl (T 0, 60, .inl (Z 7))), (q 13, .inl (T 0, 8, .inl (Z 13))), (q 15, .inl (T 0, 3, .inl (Z 15)))] H := by rw [hHe]; exact hP
  have hS : va_S A s.heap H locs := by rw [hHe, hLe]; exact hS
  refine lv_aload_n hx hb dX8_ifWhistled_0 rfl (lv_at hl 0 rfl) ?_
  refine n_iconst hx hb 0 dX8_ifWhistled_1 (by decide) ?_
  refine va_put (D := G) (ci := 8) (v := .int (nI 0)) (ty := .int) (C := RX8) (T := TX8) (N := 16) hx hb hts hinX8 tyX8 tyX8_ok nmX8 hown hK hP hD hS 0 rfl rfl 0 (by decide) lk28 (fun _ h9 => h9) rfl (by decide +kernel) rfl rfl (Nat.le_of_ble_eq_true rfl) dX8_ifWhistled_2 (fun H locs hP hD hS => ?_)
  have hP : va_P G vwCl [(q 0, .inr (8, [.int (nI 0), .ref (q 2), .ref (q 3), .int (Z 0 3), .ref (q 5), .int (Z 0 5), .ref (q 7), .int (Z 0 7), .int (Z 0 8), .int (Z 0 9), .int (Z 0 10), .int (Z 0 11), .ref (q 13), .int (Z 0 13), .ref (q 15), .long g])), (q 2, .inl (T 0, 267, .inl (Z 2))), (q 3, .inl (T 0, 1602, .inl (Z 3))), (q 5, .inl (T 0, 267, .inl (Z 5))), (q 7, .inl (T 0, 60, .inl (Z 7))), (q 13, .inl (T 0, 8, .inl (Z 13))), (q 15, .inl (T 0, 3, .inl (Z 15)))] H := hP
  have hD : va_D A [(q 0, .inr (8, [.int (nI 0), .ref (q 2), .ref (q 3), .int (Z 0 3), .ref (q 5), .int (Z 0 5), .ref (q 7), .int (Z 0 7), .int (Z 0 8), .int (Z 0 9), .int (Z 0 10), .int (Z 0 11), .ref (q 13), .int (Z 0 13), .ref (q 15), .long g])), (q 2, .inl (T 0, 267, .inl (Z 2))), (q 3, .inl (T 0, 1602, .inl (Z 3))), (q 5, .inl (T 0, 267, .inl (Z 5))), (q 7, .inl (T 0, 60, .inl (Z 7))), (q 13, .inl (T 0, 8, .inl (Z 13))), (q 15, .inl (T 0, 3, .inl (Z 15)))] := hD
  refine lv_iload_n hx hb dX8_ifWhistled_5 rfl (lv_at hl 1 rfl) ?_
  refine k_roS (As := [.int x]) (rest := []) (wc := []) (d := 1) (v := bI (pWi x (nI 0) (nI 5))) cx (c_X8_isRoom l G T A x ) (va_cwS 1 hts gX8_ifWhistled_X8_isRoom rfl rfl rfl (by decide +kernel) ⟨Nat.le_of_ble_eq_true rfl, Nat.le_of_ble_eq_true rfl⟩) (hP.sub (ws' := []) [] rfl) hK (hE.kept hS.2.1) rfl hl.1 rfl (Nat.le_of_ble_eq_true rfl) dX8_ifWhistled_6 ⟨Nat.le_of_ble_eq_true rfl, Nat.le_of_ble_eq_true rfl⟩ ?_
  refine b_if_eq (b := pWi x (nI 0) (nI 5)) (tgt := 19) hx hb dX8_ifWhistled_9 (by decide) (fun c_1 => ?_) (fun c_2 => ?_)
  · skip
    refine lv_aload_n hx hb dX8_ifWhistled_19 rfl (lv_at hl 0 rfl) ?_
    refine n_iconst hx hb 1 dX8_ifWhistled_20 (by decide) ?_
    refine k_rwV (As := [.int (nI 1)]) (rest := []) (wc := oX8 T q (sc Z 0 (nI 0)) g) (wr := []) (w1 := oX8 T q (sc (sc Z 0 (nI 0)) 0 (nI 1)) g) (d := 0) (mc := 0) (ms := 0) (v := nI 0) (isC := [0, 1, 2, 3, 4, 5, 6]) (isR := []) cx (c_X8_fails l G T H.size q (sc Z 0 (nI 0)) g (nI 1) ) (cwV 1 hts gX8_ifWhistled_X8_fails rfl rfl rfl (by decide +kernel) ⟨Nat.le_of_ble_eq_true rfl, Nat.le_of_ble_eq_true rfl⟩) ⟨hP, hD, hS, hA, hE, hK, rfl, rfl, rfl, rfl, by decide⟩ (va_recv hK hP (ci := 8) (q0 := 0) rfl rfl) rfl hl.1 rfl (Nat.le_of_ble_eq_true rfl) dX8_ifWhistled_21 ⟨Nat.le_of_ble_eq_true rfl, Nat.le_of_ble_eq_true rfl⟩ (fun H locs hP hD hS hz => ?_)
    have hP : va_P G vwCl [(q 0, .inr (8, [.int (nI 1), .ref (q 2), .ref (q 3), .int (Z 0 3), .ref (q 5), .int (Z 0 5), .ref (q 7), .int (Z 0 7), .int (Z 0 8), .int (Z 0 9), .int (Z 0 10), .int (Z 0 11), .ref (q 13), .int (Z 0 13), .ref (q 15), .long g])), (q 2, .inl (T 0, 267, .inl (Z 2))), (q 3, .inl (T 0, 1602, .inl (Z 3))), (q 5, .inl (T 0, 267, .inl (Z 5))), (q 7, .inl (T 0, 60, .inl (Z 7))), (q 13, .inl (T 0, 8, .inl (Z 13))), (q 15, .inl (T 0, 3, .inl (Z 15)))] H := hP
    have hD : va_D A [(q 0, .inr (8, [.int (nI 1), .ref (q 2), .ref (q 3), .int (Z 0 3), .ref (q 5), .int (Z 0 5), .ref (q 7), .int (Z 0 7), .int (Z 0 8), .int (Z 0 9), .int (Z 0 10), .int (Z 0 11), .ref (q 13), .int (Z 0 13), .ref (q 15), .long g])), (q 2, .inl (T 0, 267, .inl (Z 2))), (q 3, .inl (T 0, 1602, .inl (Z 3))), (q 5, .inl (T 0, 267, .inl (Z 5))), (q 7, .inl (T 0, 60, .inl (Z 7))), (q 13, .inl (T 0, 8, .inl (Z 13))), (q 15, .inl (T 0, 3, .inl (Z 15)))] := hD
    subst hQ
    have e_3 : (nI 1) = nI 1 := (by first | rfl | simp [bI, c_1])
    rw [e_3] at hP hD
    have hP9 : va_P G vwCl (oX8 T q (sc Z 0 (nI 1)) g) H := hP
    have hD9 : va_D A (oX8 T q (sc Z 0 (nI 1)) g) := hD
    exact e_rwi hx hb hr hlocks hS (by first | rfl | simp [bI, c_1]) hP9 hD9 dX8_ifWhistled_24
  · skip
    refine lv_iload_n hx hb dX8_ifWhistled_12 rfl (lv_at hl 2 rfl) ?_
    refine k_roS (As := [.int y]) (rest := []) (wc := []) (d := 1) (v := bI (pWi y (nI 0) (nI 19))) cx (c_X8_isMessage l G T A y ) (va_cwS 1 hts gX8_ifWhistled_X8_isMessage rfl rfl rfl (by decide +kernel) ⟨Nat.le_of_ble_eq_true rfl, Nat.le_of_ble_eq_true rfl⟩) (hP.sub (ws' := []) [] rfl) hK (hE.kept hS.2.1) rfl hl.1 rfl (Nat.le_of_ble_eq_true rfl) dX8_ifWhistled_13 ⟨Nat.le_of_ble_eq_true rfl, Nat.le_of_ble_eq_true rfl⟩ ?_
    refine b_if_ne (b := pWi y (nI 0) (nI 19)) (tgt := 25) hx hb dX8_ifWhistled_16 (by decide) (fun c_4 => by exfalso; simp [c_2, c_4] at hno) (fun c_5 => ?_)
    refine lv_aload_n hx hb dX8_ifWhistled_19 rfl (lv_at hl 0 rfl) ?_
    refine n_iconst hx hb 1 dX8_ifWhistled_20 (by decide) ?_
    refine k_rwV (As := [.int (nI 1)]) (rest := []) (wc := oX8 T q (sc Z 0 (nI 0)) g) (wr := []) (w1 := oX8 T q (sc (sc Z 0 (nI 0)) 0 (nI 1)) g) (d := 0) (mc := 0) (ms := 0) (v := nI 0) (isC := [0, 1, 2, 3, 4, 5, 6]) (isR := []) cx (c_X8_fails l G T H.size q (sc Z 0 (nI 0)) g (nI 1) ) (cwV 1 hts gX8_ifWhistled_X8_fails rfl rfl rfl (by decide +kernel) ⟨Nat.le_of_ble_eq_true rfl, Nat.le_of_ble_eq_true rfl⟩) ⟨hP, hD, hS, hA, hE, hK, rfl, rfl, rfl, rfl, by decide⟩ (va_recv hK hP (ci := 8) (q0 := 0) rfl rfl) rfl hl.1 rfl (Nat.le_of_ble_eq_true rfl) dX8_ifWhistled_21 ⟨Nat.le_of_ble_eq_true rfl, Nat.le_of_ble_eq_true rfl⟩ (fun H locs hP hD hS hz => ?_)
    have hP : va_P G vwCl [(q 0, .inr (8, [.int (nI 1), .ref (q 2), .ref (q 3), .int (Z 0 3), .ref (q 5), .int (Z 0 5), .ref (q 7), .int (Z 0 7), .int (Z 0 8), .int (Z 0 9), .int (Z 0 10), .int (Z 0 11), .ref (q 13), .int (Z 0 13), .ref (q 15), .long g])), (q 2, .inl (T 0, 267, .inl (Z 2))), (q 3, .inl (T 0, 1602, .inl (Z 3))), (q 5, .inl (T 0, 267, .inl (Z 5))), (q 7, .inl (T 0, 60, .inl (Z 7))), (q 13, .inl (T 0, 8, .inl (Z 13))), (q 15, .inl (T 0, 3, .inl (Z 15)))] H := hP
    have hD : va_D A [(q 0, .inr (8, [.int (nI 1), .ref (q 2), .ref (q 3), .int (Z 0 3), .ref (q 5), .int (Z 0 5), .ref (q 7), .int (Z 0 7), .int (Z 0 8), .int (Z 0 9), .int (Z 0 10), .int (Z 0 11), .ref (q 13), .int (Z 0 13), .ref (q 15), .long g])), (q 2, .inl (T 0, 267, .inl (Z 2))), (q 3, .inl (T 0, 1602, .inl (Z 3))), (q 5, .inl (T 0, 267, .inl (Z 5))), (q 7, .inl (T 0, 60, .inl (Z 7))), (q 13, .inl (T 0, 8, .inl (Z 13))), (q 15, .inl (T 0, 3, .inl (Z 15)))] := hD
    subst hQ
    have e_6 : (nI 1) = nI 1 := (by first | rfl | simp [bI, c_2, c_5])
    rw [e_6] at hP hD
    have hP9 : va_P G vwCl (oX8 T q (sc Z 0 (nI 1)) g) H := hP
    have hD9 : va_D A (oX8 T q (sc Z 0 (nI 1)) g) := hD
    exact e_rwi hx hb hr hlocks hS (by first | rfl | simp [bI, c_2, c_5]) hP9 hD9 dX8_ifWhistled_24
set_option maxHeartbeats 4000000 in
set_option maxRecDepth 100000 in
theorem c_X8_set_1 (l : Launch) (G : va_G) (T : Nat → ClassId) (sz : Nat) (q : Nat → Nat) (Z : Nat → Nat → Int32) (g : Int64) (x : Int32) (y : Int32) (hno : pWi x (nI 0) (nI 1) = false) : RWi l yX8_set wsX8_set 6 0 0 G T sz (oX8 T q Z g) [.ref (q 0), .int x, .int y] (nI 0) (oX8 T q (sc Z 0 (nI 1)) g) := by
  refine Met.ofW (cc := cX8_set) (maxL := 4) (ret := (some .int)) (by decide) rfl ?_
  intro p e s m args below meth c s₁ B hml hv
  obtain ⟨ha, hsz, hP, hK, hD0, hE0⟩ := hv
  have hx := B.exec
  have hb := B.bytes
  have hr := B.returns
  have hlocks := B.notSynchronized
  have hts := atoms_spec (ws := wsX8_set) B.pre
  have hown : s.vm.findClass RX8 = some m.cls := findClass_of_methodNamed B.named
  have cx : CallFix p m c cX8_set 4 s args wsX8_set RX8 := ⟨hx, hb, hml, hown, hts⟩
  subst hsz
  have hD := hD0.self (sz := s.heap.size)
  generalize hAe : va_A (oX8 T q Z g) s.heap.size = A at hD hE0 ⊢
  have hE : gE A s s.heap := hE0
  have hA : ∀ q : Nat, s.heap.size ≤ q → A q := fun q h => by rw [← hAe]; exact Or.inr h
  have hS : va_S A s.heap s.heap [] := va_S.rf
  refine w_entry ha (Nat.le_of_ble_eq_true rfl) (fun ls hl => ?_)
  refine w_q (fun Q0 hQ => ?_)
  have lk28 := hts (.fieldLink RX8 28 "WhistleTunesModel" "thrown" "I") (by decide +kernel)
  have hinX8 : ∀ w ∈ wsX80, w ∈ wsX8_set := by decide +kernel
  have hl : lv_has ls 4 [(0, .ref (q 0)), (1, .int x), (2, .int y)] := hl
  have hP : va_P G vwCl [(q 0, .inr (8, [.int (Z 0 0), .ref (q 2), .ref (q 3), .int (Z 0 3), .ref (q 5), .int (Z 0 5), .ref (q 7), .int (Z 0 7), .int (Z 0 8), .int (Z 0 9), .int (Z 0 10), .int (Z 0 11), .ref (q 13), .int (Z 0 13), .ref (q 15), .long g])), (q 2, .inl (T 0, 267, .inl (Z 2))), (q 3, .inl (T 0, 1602, .inl (Z 3))), (q 5, .inl (T 0, 267, .inl (Z 5))), (q 7, .inl (T 0, 60, .inl (Z 7))), (q 13, .inl (T 0, 8, .inl (Z 13))), (q 15, .inl (T 0, 3, .inl (Z 15)))] s.heap := hP
  have hD : va_D A [(q 0, .inr (8, [.int (Z 0 0), .ref (q 2), .ref (q 3), .int (Z 0 3), .ref (q 5), .int (Z 0 5), .ref (q 7), .int (Z 0 7), .int (Z 0 8), .int (Z 0 9), .int (Z 0 10), .int (Z 0 11), .ref (q 13), .int (Z 0 13), .ref (q 15), .long g])), (q 2, .inl (T 0, 267, .inl (Z 2))), (q 3, .inl (T 0, 1602, .inl (Z 3))), (q 5, .inl (T 0, 267, .inl (Z 5))), (q 7, .inl (T 0, 60, .inl (Z 7))), (q 13, .inl (T 0, 8, .inl (Z 13))), (q 15, .inl (T 0, 3, .inl (Z 15)))] := hD
  skip
  refine w_h (fun H locs hHe hLe => ?_)
  have hP : va_P G vwCl [(q 0, .inr (8, [.int (Z 0 0), .ref (q 2), .ref (q 3), .int (Z 0 3), .ref (q 5), .int (Z 0 5), .ref (q 7), .int (Z 0 7), .int (Z 0 8), .int (Z 0 9), .int (Z 0 10), .int (Z 0 11), .ref (q 13), .int (Z 0 13), .ref (q 15), .long g])), (q 2, .inl (T 0, 267, .inl (Z 2))), (q 3, .inl (T 0, 1602, .inl (Z 3))), (q 5, .inl (T 0, 267, .inl (Z 5))), (q 7, .inl (T 0, 60, .inl (Z 7))), (q 13, .inl (T 0, 8, .inl (Z 13))), (q 15, .inl (T 0, 3, .inl (Z 15)))] H := by rw [hHe]; exact hP
  have hS : va_S A s.heap H locs := by rw [hHe, hLe]; exact hS
  refine lv_aload_n hx hb dX8_set_0 rfl (lv_at hl 0 rfl) ?_
  refine n_iconst hx hb 0 dX8_set_1 (by decide) ?_
  refine va_put (D := G) (ci := 8) (v := .int (nI 0)) (ty := .int) (C := RX8) (T := TX8) (N := 16) hx hb hts hinX8 tyX8 tyX8_ok nmX8 hown hK hP hD hS 0 rfl rfl 0 (by decide) lk28 (fun _ h9 => h9) rfl (by decide +kernel) rfl rfl (Nat.le_of_ble_eq_true rfl) dX8_set_2 (fun H locs hP hD hS => ?_)
  have hP : va_P G vwCl [(q 0, .inr (8, [.int (nI 0), .ref (q 2), .ref (q 3), .int (Z 0 3), .ref (q 5), .int (Z 0 5), .ref (q 7), .int (Z 0 7), .int (Z 0 8), .int (Z 0 9), .int (Z 0 10), .int (Z 0 11), .ref (q 13), .int (Z 0 13), .ref (q 15), .long g])), (q 2, .inl (T 0, 267, .inl (Z 2))), (q 3, .inl (T 0, 1602, .inl (Z 3))), (q 5, .inl (T 0, 267, .inl (Z 5))), (q 7, .inl (T 0, 60, .inl (Z 7))), (q 13, .inl (T 0, 8, .inl (Z 13))), (q 15, .inl (T 0, 3, .inl (Z 15)))] H := hP
  have hD : va_D A [(q 0, .inr (8, [.int (nI 0), .ref (q 2), .ref (q 3), .int (Z 0 3), .ref (q 5), .int (Z 0 5), .ref (q 7), .int (Z 0 7), .int (Z 0 8), .int (Z 0 9), .int (Z 0 10), .int (Z 0 11), .ref (q 13), .int (Z 0 13), .ref (q 15), .long g])), (q 2, .inl (T 0, 267, .inl (Z 2))), (q 3, .inl (T 0, 1602, .inl (Z 3))), (q 5, .inl (T 0, 267, .inl (Z 5))), (q 7, .inl (T 0, 60, .inl (Z 7))), (q 13, .inl (T 0, 8, .inl (Z 13))), (q 15, .inl (T 0, 3, .inl (Z 15)))] := hD
  refine lv_iload_n hx hb dX8_set_5 rfl (lv_at hl 1 rfl) ?_
  refine n_iconst hx hb 0 dX8_set_6 (by decide) ?_
  refine n_iconst hx hb 1 dX8_set_7 (by decide) ?_
  refine k_roS (As := [.int x, .int (nI 0), .int (nI 1)]) (rest := []) (wc := []) (d := 0) (v := bI (pWi x (nI 0) (nI 1))) cx (c_X8_within l G T A x (nI 0) (nI 1) ) (va_cwS 3 hts gX8_set_X8_within rfl rfl rfl (by decide +kernel) ⟨Nat.le_of_ble_eq_true rfl, Nat.le_of_ble_eq_true rfl⟩) (hP.sub (ws' := []) [] rfl) hK (hE.kept hS.2.1) rfl hl.1 rfl (Nat.le_of_ble_eq_true rfl) dX8_set_8 ⟨Nat.le_of_ble_eq_true rfl, Nat.le_of_ble_eq_true rfl⟩ ?_
  refine b_if_ne (b := pWi x (nI 0) (nI 1)) (tgt := 20) hx hb dX8_set_11 (by decide) (fun c_1 => by exfalso; rw [hno] at c_1; cases c_1) (fun c_2 => ?_)
  refine lv_aload_n hx hb dX8_set_14 rfl (lv_at hl 0 rfl) ?_
  refine n_iconst hx hb 1 dX8_set_15 (by decide) ?_
  refine k_rwV (As := [.int (nI 1)]) (rest := []) (wc := oX8 T q (sc Z 0 (nI 0)) g) (wr := []) (w1 := oX8 T q (sc (sc Z 0 (nI 0)) 0 (nI 1)) g) (d := 0) (mc := 0) (ms := 0) (v := nI 0) (isC := [0, 1, 2, 3, 4, 5, 6]) (isR := []) cx (c_X8_fails l G T H.size q (sc Z 0 (nI 0)) g (nI 1) ) (cwV 1 hts gX8_set_X8_fails rfl rfl rfl (by decide +kernel) ⟨Nat.le_of_ble_eq_true rfl, Nat.le_of_ble_eq_true rfl⟩) ⟨hP, hD, hS, hA, hE, hK, rfl, rfl, rfl, rfl, by decide⟩ (va_recv hK hP (ci := 8) (q0 := 0) rfl rfl) rfl hl.1 rfl (Nat.le_of_ble_eq_true rfl) dX8_set_16 ⟨Nat.le_of_ble_eq_true rfl, Nat.le_of_ble_eq_true rfl⟩ (fun H locs hP hD hS hz => ?_)
  have hP : va_P G vwCl [(q 0, .inr (8, [.int (nI 1), .ref (q 2), .ref (q 3), .int (Z 0 3), .ref (q 5), .int (Z 0 5), .ref (q 7), .int (Z 0 7), .int (Z 0 8), .int (Z 0 9), .int (Z 0 10), .int (Z 0 11), .ref (q 13), .int (Z 0 13), .ref (q 15), .long g])), (q 2, .inl (T 0, 267, .inl (Z 2))), (q 3, .inl (T 0, 1602, .inl (Z 3))), (q 5, .inl (T 0, 267, .inl (Z 5))), (q 7, .inl (T 0, 60, .inl (Z 7))), (q 13, .inl (T 0, 8, .inl (Z 13))), (q 15, .inl (T 0, 3, .inl (Z 15)))] H := hP
  have hD : va_D A [(q 0, .inr (8, [.int (nI 1), .ref (q 2), .ref (q 3), .int (Z 0 3), .ref (q 5), .int (Z 0 5), .ref (q 7), .int (Z 0 7), .int (Z 0 8), .int (Z 0 9), .int (Z 0 10), .int (Z 0 11), .ref (q 13), .int (Z 0 13), .ref (q 15), .long g])), (q 2, .inl (T 0, 267, .inl (Z 2))), (q 3, .inl (T 0, 1602, .inl (Z 3))), (q 5, .inl (T 0, 267, .inl (Z 5))), (q 7, .inl (T 0, 60, .inl (Z 7))), (q 13, .inl (T 0, 8, .inl (Z 13))), (q 15, .inl (T 0, 3, .inl (Z 15)))] := hD
  subst hQ
  have e_3 : (nI 1) = nI 1 := (by first | rfl | simp [bI, c_2])
  rw [e_3] at hP hD
  have hP9 : va_P G vwCl (oX8 T q (sc Z 0 (nI 1)) g) H := hP
  have hD9 : va_D A (oX8 T q (sc Z 0 (nI 1)) g) := hD
  exact e_rwi hx hb hr hlocks hS (by first | rfl | simp [bI, c_2]) hP9 hD9 dX8_set_19
set_option maxHeartbeats 4000000 in
set_option maxRecDepth 100000 in
theorem c_X8_message_1 (l : Launch) (G : va_G) (T : Nat → ClassId) (sz : Nat) (q : Nat → Nat) (Z : Nat → Nat → Int32) (g : Int64) (x : Int32) (y : Int32) (hno : pWi x (nI 0) (nI 19) = false) : RWi l yX8_message wsX8_message 6 0 0 G T sz (oX8 T q Z g) [.ref (q 0), .int x, .int y] (nI 0) (oX8 T q (sc Z 0 (nI 1)) g) := by
  refine Met.ofW (cc := cX8_message) (maxL := 3) (ret := (some .int)) (by decide) rfl ?_
  intro p e s m args below meth c s₁ B hml hv
  obtain ⟨ha, hsz, hP, hK, hD0, hE0⟩ := hv
  have hx := B.exec
  have hb := B.bytes
  have hr := B.returns
  have hlocks := B.notSynchronized
  have hts := atoms_spec (ws := wsX8_message) B.pre
  have hown : s.vm.findClass RX8 = some m.cls := findClass_of_methodNamed B.named
  have cx : CallFix p m c cX8_message 3 s args wsX8_message RX8 := ⟨hx, hb, hml, hown, hts⟩
  subst hsz
  have hD := hD0.self (sz := s.heap.size)
  generalize hAe : va_A (oX8 T q Z g) s.heap.size = A at hD hE0 ⊢
  have hE : gE A s s.heap := hE0
  have hA : ∀ q : Nat, s.heap.size ≤ q → A q := fun q h => by rw [← hAe]; exact Or.inr h
  have hS : va_S A s.heap s.heap [] := va_S.rf
  refine w_entry ha (Nat.le_of_ble_eq_true rfl) (fun ls hl => ?_)
  refine w_q (fun Q0 hQ => ?_)
  have lk28 := hts (.fieldLink RX8 28 "WhistleTunesModel" "thrown" "I") (by decide +kernel)
  have hinX8 : ∀ w ∈ wsX80, w ∈ wsX8_message := by decide +kernel
  have hl : lv_has ls 3 [(0, .ref (q 0)), (1, .int x), (2, .int y)] := hl
  have hP : va_P G vwCl [(q 0, .inr (8, [.int (Z 0 0), .ref (q 2), .ref (q 3), .int (Z 0 3), .ref (q 5), .int (Z 0 5), .ref (q 7), .int (Z 0 7), .int (Z 0 8), .int (Z 0 9), .int (Z 0 10), .int (Z 0 11), .ref (q 13), .int (Z 0 13), .ref (q 15), .long g])), (q 2, .inl (T 0, 267, .inl (Z 2))), (q 3, .inl (T 0, 1602, .inl (Z 3))), (q 5, .inl (T 0, 267, .inl (Z 5))), (q 7, .inl (T 0, 60, .inl (Z 7))), (q 13, .inl (T 0, 8, .inl (Z 13))), (q 15, .inl (T 0, 3, .inl (Z 15)))] s.heap := hP
  have hD : va_D A [(q 0, .inr (8, [.int (Z 0 0), .ref (q 2), .ref (q 3), .int (Z 0 3), .ref (q 5), .int (Z 0 5), .ref (q 7), .int (Z 0 7), .int (Z 0 8), .int (Z 0 9), .int (Z 0 10), .int (Z 0 11), .ref (q 13), .int (Z 0 13), .ref (q 15), .long g])), (q 2, .inl (T 0, 267, .inl (Z 2))), (q 3, .inl (T 0, 1602, .inl (Z 3))), (q 5, .inl (T 0, 267, .inl (Z 5))), (q 7, .inl (T 0, 60, .inl (Z 7))), (q 13, .inl (T 0, 8, .inl (Z 13))), (q 15, .inl (T 0, 3, .inl (Z 15)))] := hD
  skip
  refine w_h (fun H locs hHe hLe => ?_)
  have hP : va_P G vwCl [(q 0, .inr (8, [.int (Z 0 0), .ref (q 2), .ref (q 3), .int (Z 0 3), .ref (q 5), .int (Z 0 5), .ref (q 7), .int (Z 0 7), .int (Z 0 8), .int (Z 0 9), .int (Z 0 10), .int (Z 0 11), .ref (q 13), .int (Z 0 13), .ref (q 15), .long g])), (q 2, .inl (T 0, 267, .inl (Z 2))), (q 3, .inl (T 0, 1602, .inl (Z 3))), (q 5, .inl (T 0, 267, .inl (Z 5))), (q 7, .inl (T 0, 60, .inl (Z 7))), (q 13, .inl (T 0, 8, .inl (Z 13))), (q 15, .inl (T 0, 3, .inl (Z 15)))] H := by rw [hHe]; exact hP
  have hS : va_S A s.heap H locs := by rw [hHe, hLe]; exact hS
  refine lv_aload_n hx hb dX8_message_0 rfl (lv_at hl 0 rfl) ?_
  refine n_iconst hx hb 0 dX8_message_1 (by decide) ?_
  refine va_put (D := G) (ci := 8) (v := .int (nI 0)) (ty := .int) (C := RX8) (T := TX8) (N := 16) hx hb hts hinX8 tyX8 tyX8_ok nmX8 hown hK hP hD hS 0 rfl rfl 0 (by decide) lk28 (fun _ h9 => h9) rfl (by decide +kernel) rfl rfl (Nat.le_of_ble_eq_true rfl) dX8_message_2 (fun H locs hP hD hS => ?_)
  have hP : va_P G vwCl [(q 0, .inr (8, [.int (nI 0), .ref (q 2), .ref (q 3), .int (Z 0 3), .ref (q 5), .int (Z 0 5), .ref (q 7), .int (Z 0 7), .int (Z 0 8), .int (Z 0 9), .int (Z 0 10), .int (Z 0 11), .ref (q 13), .int (Z 0 13), .ref (q 15), .long g])), (q 2, .inl (T 0, 267, .inl (Z 2))), (q 3, .inl (T 0, 1602, .inl (Z 3))), (q 5, .inl (T 0, 267, .inl (Z 5))), (q 7, .inl (T 0, 60, .inl (Z 7))), (q 13, .inl (T 0, 8, .inl (Z 13))), (q 15, .inl (T 0, 3, .inl (Z 15)))] H := hP
  have hD : va_D A [(q 0, .inr (8, [.int (nI 0), .ref (q 2), .ref (q 3), .int (Z 0 3), .ref (q 5), .int (Z 0 5), .ref (q 7), .int (Z 0 7), .int (Z 0 8), .int (Z 0 9), .int (Z 0 10), .int (Z 0 11), .ref (q 13), .int (Z 0 13), .ref (q 15), .long g])), (q 2, .inl (T 0, 267, .inl (Z 2))), (q 3, .inl (T 0, 1602, .inl (Z 3))), (q 5, .inl (T 0, 267, .inl (Z 5))), (q 7, .inl (T 0, 60, .inl (Z 7))), (q 13, .inl (T 0, 8, .inl (Z 13))), (q 15, .inl (T 0, 3, .inl (Z 15)))] := hD
  refine lv_iload_n hx hb dX8_message_5 rfl (lv_at hl 1 rfl) ?_
  refine k_roS (As := [.int x]) (rest := []) (wc := []) (d := 1) (v := bI (pWi x (nI 0) (nI 19))) cx (c_X8_isMessage l G T A x ) (va_cwS 1 hts gX8_message_X8_isMessage rfl rfl rfl (by decide +kernel) ⟨Nat.le_of_ble_eq_true rfl, Nat.le_of_ble_eq_true rfl⟩) (hP.sub (ws' := []) [] rfl) hK (hE.kept hS.2.1) rfl hl.1 rfl (Nat.le_of_ble_eq_true rfl) dX8_message_6 ⟨Nat.le_of_ble_eq_true rfl, Nat.le_of_ble_eq_true rfl⟩ ?_
  refine b_if_ne (b := pWi x (nI 0) (nI 19)) (tgt := 18) hx hb dX8_message_9 (by decide) (fun c_1 => by exfalso; rw [hno] at c_1; cases c_1) (fun c_2 => ?_)
  refine lv_aload_n hx hb dX8_message_12 rfl (lv_at hl 0 rfl) ?_
  refine n_iconst hx hb 1 dX8_message_13 (by decide) ?_
  refine k_rwV (As := [.int (nI 1)]) (rest := []) (wc := oX8 T q (sc Z 0 (nI 0)) g) (wr := []) (w1 := oX8 T q (sc (sc Z 0 (nI 0)) 0 (nI 1)) g) (d := 0) (mc := 0) (ms := 0) (v := nI 0) (isC := [0, 1, 2, 3, 4, 5, 6]) (isR := []) cx (c_X8_fails l G T H.size q (sc Z 0 (nI 0)) g (nI 1) ) (cwV 1 hts gX8_message_X8_fails rfl rfl rfl (by decide +kernel) ⟨Nat.le_of_ble_eq_true rfl, Nat.le_of_ble_eq_true rfl⟩) ⟨hP, hD, hS, hA, hE, hK, rfl, rfl, rfl, rfl, by decide⟩ (va_recv hK hP (ci := 8) (q0 := 0) rfl rfl) rfl hl.1 rfl (Nat.le_of_ble_eq_true rfl) dX8_message_14 ⟨Nat.le_of_ble_eq_true rfl, Nat.le_of_ble_eq_true rfl⟩ (fun H locs hP hD hS hz => ?_)
  have hP : va_P G vwCl [(q 0, .inr (8, [.int (nI 1), .ref (q 2), .ref (q 3), .int (Z 0 3), .ref (q 5), .int (Z 0 5), .ref (q 7), .int (Z 0 7), .int (Z 0 8), .int (Z 0 9), .int (Z 0 10), .int (Z 0 11), .ref (q 13), .int (Z 0 13), .ref (q 15), .long g])), (q 2, .inl (T 0, 267, .inl (Z 2))), (q 3, .inl (T 0, 1602, .inl (Z 3))), (q 5, .inl (T 0, 267, .inl (Z 5))), (q 7, .inl (T 0, 60, .inl (Z 7))), (q 13, .inl (T 0, 8, .inl (Z 13))), (q 15, .inl (T 0, 3, .inl (Z 15)))] H := hP
  have hD : va_D A [(q 0, .inr (8, [.int (nI 1), .ref (q 2), .ref (q 3), .int (Z 0 3), .ref (q 5), .int (Z 0 5), .ref (q 7), .int (Z 0 7), .int (Z 0 8), .int (Z 0 9), .int (Z 0 10), .int (Z 0 11), .ref (q 13), .int (Z 0 13), .ref (q 15), .long g])), (q 2, .inl (T 0, 267, .inl (Z 2))), (q 3, .inl (T 0, 1602, .inl (Z 3))), (q 5, .inl (T 0, 267, .inl (Z 5))), (q 7, .inl (T 0, 60, .inl (Z 7))), (q 13, .inl (T 0, 8, .inl (Z 13))), (q 15, .inl (T 0, 3, .inl (Z 15)))] := hD
  subst hQ
  have e_3 : (nI 1) = nI 1 := (by first | rfl | simp [bI, c_2])
  rw [e_3] at hP hD
  have hP9 : va_P G vwCl (oX8 T q (sc Z 0 (nI 1)) g) H := hP
  have hD9 : va_D A (oX8 T q (sc Z 0 (nI 1)) g) := hD
  exact e_rwi hx hb hr hlocks hS (by first | rfl | simp [bI, c_2]) hP9 hD9 dX8_message_17
set_option maxHeartbeats 4000000 in
set_option maxRecDepth 100000 in
theorem c_X8_note_1 (l : Launch) (G : va_G) (T : Nat → ClassId) (sz : Nat) (q : Nat → Nat) (Z : Nat → Nat → Int32) (g : Int64) (x : Int32) (y : Int32) (hno : pWi x (nI 0) (nI 19) = false) : RWi l yX8_note wsX8_note 6 0 0 G T sz (oX8 T q Z g) [.ref (q 0), .int x, .int y] (nI 0) (oX8 T q (sc Z 0 (nI 1)) g) := by
  refine Met.ofW (cc := cX8_note) (maxL := 3) (ret := (some .int)) (by decide) rfl ?_
  intro p e s m args below meth c s₁ B hml hv
  obtain ⟨ha, hsz, hP, hK, hD0, hE0⟩ := hv
  have hx := B.exec
  have hb := B.bytes
  have hr := B.returns
  have hlocks := B.notSynchronized
  have hts := atoms_spec (ws := wsX8_note) B.pre
  have hown : s.vm.findClass RX8 = some m.cls := findClass_of_methodNamed B.named
  have cx : CallFix p m c cX8_note 3 s args wsX8_note RX8 := ⟨hx, hb, hml, hown, hts⟩
  subst hsz
  have hD := hD0.self (sz := s.heap.size)
  generalize hAe : va_A (oX8 T q Z g) s.heap.size = A at hD hE0 ⊢
  have hE : gE A s s.heap := hE0
  have hA : ∀ q : Nat, s.heap.size ≤ q → A q := fun q h => by rw [← hAe]; exact Or.inr h
  have hS : va_S A s.heap s.heap [] := va_S.rf
  refine w_entry ha (Nat.le_of_ble_eq_true rfl) (fun ls hl => ?_)
  refine w_q (fun Q0 hQ => ?_)
  have lk28 := hts (.fieldLink RX8 28 "WhistleTunesModel" "thrown" "I") (by decide +kernel)
  have hinX8 : ∀ w ∈ wsX80, w ∈ wsX8_note := by decide +kernel
  have hl : lv_has ls 3 [(0, .ref (q 0)), (1, .int x), (2, .int y)] := hl
  have hP : va_P G vwCl [(q 0, .inr (8, [.int (Z 0 0), .ref (q 2), .ref (q 3), .int (Z 0 3), .ref (q 5), .int (Z 0 5), .ref (q 7), .int (Z 0 7), .int (Z 0 8), .int (Z 0 9), .int (Z 0 10), .int (Z 0 11), .ref (q 13), .int (Z 0 13), .ref (q 15), .long g])), (q 2, .inl (T 0, 267, .inl (Z 2))), (q 3, .inl (T 0, 1602, .inl (Z 3))), (q 5, .inl (T 0, 267, .inl (Z 5))), (q 7, .inl (T 0, 60, .inl (Z 7))), (q 13, .inl (T 0, 8, .inl (Z 13))), (q 15, .inl (T 0, 3, .inl (Z 15)))] s.heap := hP
  have hD : va_D A [(q 0, .inr (8, [.int (Z 0 0), .ref (q 2), .ref (q 3), .int (Z 0 3), .ref (q 5), .int (Z 0 5), .ref (q 7), .int (Z 0 7), .int (Z 0 8), .int (Z 0 9), .int (Z 0 10), .int (Z 0 11), .ref (q 13), .int (Z 0 13), .ref (q 15), .long g])), (q 2, .inl (T 0, 267, .inl (Z 2))), (q 3, .inl (T 0, 1602, .inl (Z 3))), (q 5, .inl (T 0, 267, .inl (Z 5))), (q 7, .inl (T 0, 60, .inl (Z 7))), (q 13, .inl (T 0, 8, .inl (Z 13))), (q 15, .inl (T 0, 3, .inl (Z 15)))] := hD
  skip
  refine w_h (fun H locs hHe hLe => ?_)
  have hP : va_P G vwCl [(q 0, .inr (8, [.int (Z 0 0), .ref (q 2), .ref (q 3), .int (Z 0 3), .ref (q 5), .int (Z 0 5), .ref (q 7), .int (Z 0 7), .int (Z 0 8), .int (Z 0 9), .int (Z 0 10), .int (Z 0 11), .ref (q 13), .int (Z 0 13), .ref (q 15), .long g])), (q 2, .inl (T 0, 267, .inl (Z 2))), (q 3, .inl (T 0, 1602, .inl (Z 3))), (q 5, .inl (T 0, 267, .inl (Z 5))), (q 7, .inl (T 0, 60, .inl (Z 7))), (q 13, .inl (T 0, 8, .inl (Z 13))), (q 15, .inl (T 0, 3, .inl (Z 15)))] H := by rw [hHe]; exact hP
  have hS : va_S A s.heap H locs := by rw [hHe, hLe]; exact hS
  refine lv_aload_n hx hb dX8_note_0 rfl (lv_at hl 0 rfl) ?_
  refine n_iconst hx hb 0 dX8_note_1 (by decide) ?_
  refine va_put (D := G) (ci := 8) (v := .int (nI 0)) (ty := .int) (C := RX8) (T := TX8) (N := 16) hx hb hts hinX8 tyX8 tyX8_ok nmX8 hown hK hP hD hS 0 rfl rfl 0 (by decide) lk28 (fun _ h9 => h9) rfl (by decide +kernel) rfl rfl (Nat.le_of_ble_eq_true rfl) dX8_note_2 (fun H locs hP hD hS => ?_)
  have hP : va_P G vwCl [(q 0, .inr (8, [.int (nI 0), .ref (q 2), .ref (q 3), .int (Z 0 3), .ref (q 5), .int (Z 0 5), .ref (q 7), .int (Z 0 7), .int (Z 0 8), .int (Z 0 9), .int (Z 0 10), .int (Z 0 11), .ref (q 13), .int (Z 0 13), .ref (q 15), .long g])), (q 2, .inl (T 0, 267, .inl (Z 2))), (q 3, .inl (T 0, 1602, .inl (Z 3))), (q 5, .inl (T 0, 267, .inl (Z 5))), (q 7, .inl (T 0, 60, .inl (Z 7))), (q 13, .inl (T 0, 8, .inl (Z 13))), (q 15, .inl (T 0, 3, .inl (Z 15)))] H := hP
  have hD : va_D A [(q 0, .inr (8, [.int (nI 0), .ref (q 2), .ref (q 3), .int (Z 0 3), .ref (q 5), .int (Z 0 5), .ref (q 7), .int (Z 0 7), .int (Z 0 8), .int (Z 0 9), .int (Z 0 10), .int (Z 0 11), .ref (q 13), .int (Z 0 13), .ref (q 15), .long g])), (q 2, .inl (T 0, 267, .inl (Z 2))), (q 3, .inl (T 0, 1602, .inl (Z 3))), (q 5, .inl (T 0, 267, .inl (Z 5))), (q 7, .inl (T 0, 60, .inl (Z 7))), (q 13, .inl (T 0, 8, .inl (Z 13))), (q 15, .inl (T 0, 3, .inl (Z 15)))] := hD
  refine lv_iload_n hx hb dX8_note_5 rfl (lv_at hl 1 rfl) ?_
  refine k_roS (As := [.int x]) (rest := []) (wc := []) (d := 1) (v := bI (pWi x (nI 0) (nI 19))) cx (c_X8_isMessage l G T A x ) (va_cwS 1 hts gX8_note_X8_isMessage rfl rfl rfl (by decide +kernel) ⟨Nat.le_of_ble_eq_true rfl, Nat.le_of_ble_eq_true rfl⟩) (hP.sub (ws' := []) [] rfl) hK (hE.kept hS.2.1) rfl hl.1 rfl (Nat.le_of_ble_eq_true rfl) dX8_note_6 ⟨Nat.le_of_ble_eq_true rfl, Nat.le_of_ble_eq_true rfl⟩ ?_
  refine b_if_ne (b := pWi x (nI 0) (nI 19)) (tgt := 18) hx hb dX8_note_9 (by decide) (fun c_1 => by exfalso; rw [hno] at c_1; cases c_1) (fun c_2 => ?_)
  refine lv_aload_n hx hb dX8_note_12 rfl (lv_at hl 0 rfl) ?_
  refine n_iconst hx hb 1 dX8_note_13 (by decide) ?_
  refine k_rwV (As := [.int (nI 1)]) (rest := []) (wc := oX8 T q (sc Z 0 (nI 0)) g) (wr := []) (w1 := oX8 T q (sc (sc Z 0 (nI 0)) 0 (nI 1)) g) (d := 0) (mc := 0) (ms := 0) (v := nI 0) (isC := [0, 1, 2, 3, 4, 5, 6]) (isR := []) cx (c_X8_fails l G T H.size q (sc Z 0 (nI 0)) g (nI 1) ) (cwV 1 hts gX8_note_X8_fails rfl rfl rfl (by decide +kernel) ⟨Nat.le_of_ble_eq_true rfl, Nat.le_of_ble_eq_true rfl⟩) ⟨hP, hD, hS, hA, hE, hK, rfl, rfl, rfl, rfl, by decide⟩ (va_recv hK hP (ci := 8) (q0 := 0) rfl rfl) rfl hl.1 rfl (Nat.le_of_ble_eq_true rfl) dX8_note_14 ⟨Nat.le_of_ble_eq_true rfl, Nat.le_of_ble_eq_true rfl⟩ (fun H locs hP hD hS hz => ?_)
  have hP : va_P G vwCl [(q 0, .inr (8, [.int (nI 1), .ref (q 2), .ref (q 3), .int (Z 0 3), .ref (q 5), .int (Z 0 5), .ref (q 7), .int (Z 0 7), .int (Z 0 8), .int (Z 0 9), .int (Z 0 10), .int (Z 0 11), .ref (q 13), .int (Z 0 13), .ref (q 15), .long g])), (q 2, .inl (T 0, 267, .inl (Z 2))), (q 3, .inl (T 0, 1602, .inl (Z 3))), (q 5, .inl (T 0, 267, .inl (Z 5))), (q 7, .inl (T 0, 60, .inl (Z 7))), (q 13, .inl (T 0, 8, .inl (Z 13))), (q 15, .inl (T 0, 3, .inl (Z 15)))] H := hP
  have hD : va_D A [(q 0, .inr (8, [.int (nI 1), .ref (q 2), .ref (q 3), .int (Z 0 3), .ref (q 5), .int (Z 0 5), .ref (q 7), .int (Z 0 7), .int (Z 0 8), .int (Z 0 9), .int (Z 0 10), .int (Z 0 11), .ref (q 13), .int (Z 0 13), .ref (q 15), .long g])), (q 2, .inl (T 0, 267, .inl (Z 2))), (q 3, .inl (T 0, 1602, .inl (Z 3))), (q 5, .inl (T 0, 267, .inl (Z 5))), (q 7, .inl (T 0, 60, .inl (Z 7))), (q 13, .inl (T 0, 8, .inl (Z 13))), (q 15, .inl (T 0, 3, .inl (Z 15)))] := hD
  subst hQ
  have e_3 : (nI 1) = nI 1 := (by first | rfl | simp [bI, c_2])
  rw [e_3] at hP hD
  have hP9 : va_P G vwCl (oX8 T q (sc Z 0 (nI 1)) g) H := hP
  have hD9 : va_D A (oX8 T q (sc Z 0 (nI 1)) g) := hD
  exact e_rwi hx hb hr hlocks hS (by first | rfl | simp [bI, c_2]) hP9 hD9 dX8_note_17
set_option maxHeartbeats 4000000 in
set_option maxRecDepth 100000 in
theorem c_X8_room_1 (l : Launch) (G : va_G) (T : Nat → ClassId) (sz : Nat) (q : Nat → Nat) (Z : Nat → Nat → Int32) (g : Int64) (x : Int32) (y : Int32) (hno : pWi x (nI 0) (nI 5) = false) : RWi l yX8_room wsX8_room 6 0 0 G T sz (oX8 T q Z g) [.ref (q 0), .int x, .int y] (nI 0) (oX8 T q (sc Z 0 (nI 1)) g) := by
  refine Met.ofW (cc := cX8_room) (maxL := 3) (ret := (some .int)) (by decide) rfl ?_
  intro p e s m args below meth c s₁ B hml hv
  obtain ⟨ha, hsz, hP, hK, hD0, hE0⟩ := hv
  have hx := B.exec
  have hb := B.bytes
  have hr := B.returns
  have hlocks := B.notSynchronized
  have hts := atoms_spec (ws := wsX8_room) B.pre
  have hown : s.vm.findClass RX8 = some m.cls := findClass_of_methodNamed B.named
  have cx : CallFix p m c cX8_room 3 s args wsX8_room RX8 := ⟨hx, hb, hml, hown, hts⟩
  subst hsz
  have hD := hD0.self (sz := s.heap.size)
  generalize hAe : va_A (oX8 T q Z g) s.heap.size = A at hD hE0 ⊢
  have hE : gE A s s.heap := hE0
  have hA : ∀ q : Nat, s.heap.size ≤ q → A q := fun q h => by rw [← hAe]; exact Or.inr h
  have hS : va_S A s.heap s.heap [] := va_S.rf
  refine w_entry ha (Nat.le_of_ble_eq_true rfl) (fun ls hl => ?_)
  refine w_q (fun Q0 hQ => ?_)
  have lk28 := hts (.fieldLink RX8 28 "WhistleTunesModel" "thrown" "I") (by decide +kernel)
  have hinX8 : ∀ w ∈ wsX80, w ∈ wsX8_room := by decide +kernel
  have hl : lv_has ls 3 [(0, .ref (q 0)), (1, .int x), (2, .int y)] := hl
  have hP : va_P G vwCl [(q 0, .inr (8, [.int (Z 0 0), .ref (q 2), .ref (q 3), .int (Z 0 3), .ref (q 5), .int (Z 0 5), .ref (q 7), .int (Z 0 7), .int (Z 0 8), .int (Z 0 9), .int (Z 0 10), .int (Z 0 11), .ref (q 13), .int (Z 0 13), .ref (q 15), .long g])), (q 2, .inl (T 0, 267, .inl (Z 2))), (q 3, .inl (T 0, 1602, .inl (Z 3))), (q 5, .inl (T 0, 267, .inl (Z 5))), (q 7, .inl (T 0, 60, .inl (Z 7))), (q 13, .inl (T 0, 8, .inl (Z 13))), (q 15, .inl (T 0, 3, .inl (Z 15)))] s.heap := hP
  have hD : va_D A [(q 0, .inr (8, [.int (Z 0 0), .ref (q 2), .ref (q 3), .int (Z 0 3), .ref (q 5), .int (Z 0 5), .ref (q 7), .int (Z 0 7), .int (Z 0 8), .int (Z 0 9), .int (Z 0 10), .int (Z 0 11), .ref (q 13), .int (Z 0 13), .ref (q 15), .long g])), (q 2, .inl (T 0, 267, .inl (Z 2))), (q 3, .inl (T 0, 1602, .inl (Z 3))), (q 5, .inl (T 0, 267, .inl (Z 5))), (q 7, .inl (T 0, 60, .inl (Z 7))), (q 13, .inl (T 0, 8, .inl (Z 13))), (q 15, .inl (T 0, 3, .inl (Z 15)))] := hD
  skip
  refine w_h (fun H locs hHe hLe => ?_)
  have hP : va_P G vwCl [(q 0, .inr (8, [.int (Z 0 0), .ref (q 2), .ref (q 3), .int (Z 0 3), .ref (q 5), .int (Z 0 5), .ref (q 7), .int (Z 0 7), .int (Z 0 8), .int (Z 0 9), .int (Z 0 10), .int (Z 0 11), .ref (q 13), .int (Z 0 13), .ref (q 15), .long g])), (q 2, .inl (T 0, 267, .inl (Z 2))), (q 3, .inl (T 0, 1602, .inl (Z 3))), (q 5, .inl (T 0, 267, .inl (Z 5))), (q 7, .inl (T 0, 60, .inl (Z 7))), (q 13, .inl (T 0, 8, .inl (Z 13))), (q 15, .inl (T 0, 3, .inl (Z 15)))] H := by rw [hHe]; exact hP
  have hS : va_S A s.heap H locs := by rw [hHe, hLe]; exact hS
  refine lv_aload_n hx hb dX8_room_0 rfl (lv_at hl 0 rfl) ?_
  refine n_iconst hx hb 0 dX8_room_1 (by decide) ?_
  refine va_put (D := G) (ci := 8) (v := .int (nI 0)) (ty := .int) (C := RX8) (T := TX8) (N := 16) hx hb hts hinX8 tyX8 tyX8_ok nmX8 hown hK hP hD hS 0 rfl rfl 0 (by decide) lk28 (fun _ h9 => h9) rfl (by decide +kernel) rfl rfl (Nat.le_of_ble_eq_true rfl) dX8_room_2 (fun H locs hP hD hS => ?_)
  have hP : va_P G vwCl [(q 0, .inr (8, [.int (nI 0), .ref (q 2), .ref (q 3), .int (Z 0 3), .ref (q 5), .int (Z 0 5), .ref (q 7), .int (Z 0 7), .int (Z 0 8), .int (Z 0 9), .int (Z 0 10), .int (Z 0 11), .ref (q 13), .int (Z 0 13), .ref (q 15), .long g])), (q 2, .inl (T 0, 267, .inl (Z 2))), (q 3, .inl (T 0, 1602, .inl (Z 3))), (q 5, .inl (T 0, 267, .inl (Z 5))), (q 7, .inl (T 0, 60, .inl (Z 7))), (q 13, .inl (T 0, 8, .inl (Z 13))), (q 15, .inl (T 0, 3, .inl (Z 15)))] H := hP
  have hD : va_D A [(q 0, .inr (8, [.int (nI 0), .ref (q 2), .ref (q 3), .int (Z 0 3), .ref (q 5), .int (Z 0 5), .ref (q 7), .int (Z 0 7), .int (Z 0 8), .int (Z 0 9), .int (Z 0 10), .int (Z 0 11), .ref (q 13), .int (Z 0 13), .ref (q 15), .long g])), (q 2, .inl (T 0, 267, .inl (Z 2))), (q 3, .inl (T 0, 1602, .inl (Z 3))), (q 5, .inl (T 0, 267, .inl (Z 5))), (q 7, .inl (T 0, 60, .inl (Z 7))), (q 13, .inl (T 0, 8, .inl (Z 13))), (q 15, .inl (T 0, 3, .inl (Z 15)))] := hD
  refine lv_iload_n hx hb dX8_room_5 rfl (lv_at hl 1 rfl) ?_
  refine k_roS (As := [.int x]) (rest := []) (wc := []) (d := 1) (v := bI (pWi x (nI 0) (nI 5))) cx (c_X8_isRoom l G T A x ) (va_cwS 1 hts gX8_room_X8_isRoom rfl rfl rfl (by decide +kernel) ⟨Nat.le_of_ble_eq_true rfl, Nat.le_of_ble_eq_true rfl⟩) (hP.sub (ws' := []) [] rfl) hK (hE.kept hS.2.1) rfl hl.1 rfl (Nat.le_of_ble_eq_true rfl) dX8_room_6 ⟨Nat.le_of_ble_eq_true rfl, Nat.le_of_ble_eq_true rfl⟩ ?_
  refine b_if_ne (b := pWi x (nI 0) (nI 5)) (tgt := 18) hx hb dX8_room_9 (by decide) (fun c_1 => by exfalso; rw [hno] at c_1; cases c_1) (fun c_2 => ?_)
  refine lv_aload_n hx hb dX8_room_12 rfl (lv_at hl 0 rfl) ?_
  refine n_iconst hx hb 1 dX8_room_13 (by decide) ?_
  refine k_rwV (As := [.int (nI 1)]) (rest := []) (wc := oX8 T q (sc Z 0 (nI 0)) g) (wr := []) (w1 := oX8 T q (sc (sc Z 0 (nI 0)) 0 (nI 1)) g) (d := 0) (mc := 0) (ms := 0) (v := nI 0) (isC := [0, 1, 2, 3, 4, 5, 6]) (isR := []) cx (c_X8_fails l G T H.size q (sc Z 0 (nI 0)) g (nI 1) ) (cwV 1 hts gX8_room_X8_fails rfl rfl rfl (by decide +kernel) ⟨Nat.le_of_ble_eq_true rfl, Nat.le_of_ble_eq_true rfl⟩) ⟨hP, hD, hS, hA, hE, hK, rfl, rfl, rfl, rfl, by decide⟩ (va_recv hK hP (ci := 8) (q0 := 0) rfl rfl) rfl hl.1 rfl (Nat.le_of_ble_eq_true rfl) dX8_room_14 ⟨Nat.le_of_ble_eq_true rfl, Nat.le_of_ble_eq_true rfl⟩ (fun H locs hP hD hS hz => ?_)
  have hP : va_P G vwCl [(q 0, .inr (8, [.int (nI 1), .ref (q 2), .ref (q 3), .int (Z 0 3), .ref (q 5), .int (Z 0 5), .ref (q 7), .int (Z 0 7), .int (Z 0 8), .int (Z 0 9), .int (Z 0 10), .int (Z 0 11), .ref (q 13), .int (Z 0 13), .ref (q 15), .long g])), (q 2, .inl (T 0, 267, .inl (Z 2))), (q 3, .inl (T 0, 1602, .inl (Z 3))), (q 5, .inl (T 0, 267, .inl (Z 5))), (q 7, .inl (T 0, 60, .inl (Z 7))), (q 13, .inl (T 0, 8, .inl (Z 13))), (q 15, .inl (T 0, 3, .inl (Z 15)))] H := hP
  have hD : va_D A [(q 0, .inr (8, [.int (nI 1), .ref (q 2), .ref (q 3), .int (Z 0 3), .ref (q 5), .int (Z 0 5), .ref (q 7), .int (Z 0 7), .int (Z 0 8), .int (Z 0 9), .int (Z 0 10), .int (Z 0 11), .ref (q 13), .int (Z 0 13), .ref (q 15), .long g])), (q 2, .inl (T 0, 267, .inl (Z 2))), (q 3, .inl (T 0, 1602, .inl (Z 3))), (q 5, .inl (T 0, 267, .inl (Z 5))), (q 7, .inl (T 0, 60, .inl (Z 7))), (q 13, .inl (T 0, 8, .inl (Z 13))), (q 15, .inl (T 0, 3, .inl (Z 15)))] := hD
  subst hQ
  have e_3 : (nI 1) = nI 1 := (by first | rfl | simp [bI, c_2])
  rw [e_3] at hP hD
  have hP9 : va_P G vwCl (oX8 T q (sc Z 0 (nI 1)) g) H := hP
  have hD9 : va_D A (oX8 T q (sc Z 0 (nI 1)) g) := hD
  exact e_rwi hx hb hr hlocks hS (by first | rfl | simp [bI, c_2]) hP9 hD9 dX8_room_17
set_option maxHeartbeats 4000000 in
set_option maxRecDepth 100000 in
theorem c_X8_message_2 (l : Launch) (G : va_G) (T : Nat → ClassId) (sz : Nat) (q : Nat → Nat) (Z : Nat → Nat → Int32) (g : Int64) (mm : Nat) (y : Int32) (hm20 : mm < 20) (hno : pWi y (nI 0) (nI 3) = false) : RWi l yX8_message wsX8_message 6 0 0 G T sz (oX8 T q Z g) [.ref (q 0), .int (nI mm), .int y] (nI 0) (oX8 T q (sc Z 0 (nI 2)) g) := by
  refine Met.ofW (cc := cX8_message) (maxL := 3) (ret := (some .int)) (by decide) rfl ?_
  intro p e s m args below meth c s₁ B hml hv
  obtain ⟨ha, hsz, hP, hK, hD0, hE0⟩ := hv
  have hx := B.exec
  have hb := B.bytes
  have hr := B.returns
  have hlocks := B.notSynchronized
  have hts := atoms_spec (ws := wsX8_message) B.pre
  have hown : s.vm.findClass RX8 = some m.cls := findClass_of_methodNamed B.named
  have cx : CallFix p m c cX8_message 3 s args wsX8_message RX8 := ⟨hx, hb, hml, hown, hts⟩
  subst hsz
  have hD := hD0.self (sz := s.heap.size)
  generalize hAe : va_A (oX8 T q Z g) s.heap.size = A at hD hE0 ⊢
  have hE : gE A s s.heap := hE0
  have hA : ∀ q : Nat, s.heap.size ≤ q → A q := fun q h => by rw [← hAe]; exact Or.inr h
  have hS : va_S A s.heap s.heap [] := va_S.rf
  refine w_entry ha (Nat.le_of_ble_eq_true rfl) (fun ls hl => ?_)
  refine w_q (fun Q0 hQ => ?_)
  have lk28 := hts (.fieldLink RX8 28 "WhistleTunesModel" "thrown" "I") (by decide +kernel)
  have hinX8 : ∀ w ∈ wsX80, w ∈ wsX8_message := by decide +kernel
  have hl : lv_has ls 3 [(0, .ref (q 0)), (1, .int (nI mm)), (2, .int y)] := hl
  have hP : va_P G vwCl [(q 0, .inr (8, [.int (Z 0 0), .ref (q 2), .ref (q 3), .int (Z 0 3), .ref (q 5), .int (Z 0 5), .ref (q 7), .int (Z 0 7), .int (Z 0 8), .int (Z 0 9), .int (Z 0 10), .int (Z 0 11), .ref (q 13), .int (Z 0 13), .ref (q 15), .long g])), (q 2, .inl (T 0, 267, .inl (Z 2))), (q 3, .inl (T 0, 1602, .inl (Z 3))), (q 5, .inl (T 0, 267, .inl (Z 5))), (q 7, .inl (T 0, 60, .inl (Z 7))), (q 13, .inl (T 0, 8, .inl (Z 13))), (q 15, .inl (T 0, 3, .inl (Z 15)))] s.heap := hP
  have hD : va_D A [(q 0, .inr (8, [.int (Z 0 0), .ref (q 2), .ref (q 3), .int (Z 0 3), .ref (q 5), .int (Z 0 5), .ref (q 7), .int (Z 0 7), .int (Z 0 8), .int (Z 0 9), .int (Z 0 10), .int (Z 0 11), .ref (q 13), .int (Z 0 13), .ref (q 15), .long g])), (q 2, .inl (T 0, 267, .inl (Z 2))), (q 3, .inl (T 0, 1602, .inl (Z 3))), (q 5, .inl (T 0, 267, .inl (Z 5))), (q 7, .inl (T 0, 60, .inl (Z 7))), (q 13, .inl (T 0, 8, .inl (Z 13))), (q 15, .inl (T 0, 3, .inl (Z 15)))] := hD
  skip
  refine w_h (fun H locs hHe hLe => ?_)
  have hP : va_P G vwCl [(q 0, .inr (8, [.int (Z 0 0), .ref (q 2), .ref (q 3), .int (Z 0 3), .ref (q 5), .int (Z 0 5), .ref (q 7), .int (Z 0 7), .int (Z 0 8), .int (Z 0 9), .int (Z 0 10), .int (Z 0 11), .ref (q 13), .int (Z 0 13), .ref (q 15), .long g])), (q 2, .inl (T 0, 267, .inl (Z 2))), (q 3, .inl (T 0, 1602, .inl (Z 3))), (q 5, .inl (T 0, 267, .inl (Z 5))), (q 7, .inl (T 0, 60, .inl (Z 7))), (q 13, .inl (T 0, 8, .inl (Z 13))), (q 15, .inl (T 0, 3, .inl (Z 15)))] H := by rw [hHe]; exact hP
  have hS : va_S A s.heap H locs := by rw [hHe, hLe]; exact hS
  refine lv_aload_n hx hb dX8_message_0 rfl (lv_at hl 0 rfl) ?_
  refine n_iconst hx hb 0 dX8_message_1 (by decide) ?_
  refine va_put (D := G) (ci := 8) (v := .int (nI 0)) (ty := .int) (C := RX8) (T := TX8) (N := 16) hx hb hts hinX8 tyX8 tyX8_ok nmX8 hown hK hP hD hS 0 rfl rfl 0 (by decide) lk28 (fun _ h9 => h9) rfl (by decide +kernel) rfl rfl (Nat.le_of_ble_eq_true rfl) dX8_message_2 (fun H locs hP hD hS => ?_)
  have hP : va_P G vwCl [(q 0, .inr (8, [.int (nI 0), .ref (q 2), .ref (q 3), .int (Z 0 3), .ref (q 5), .int (Z 0 5), .ref (q 7), .int (Z 0 7), .int (Z 0 8), .int (Z 0 9), .int (Z 0 10), .int (Z 0 11), .ref (q 13), .int (Z 0 13), .ref (q 15), .long g])), (q 2, .inl (T 0, 267, .inl (Z 2))), (q 3, .inl (T 0, 1602, .inl (Z 3))), (q 5, .inl (T 0, 267, .inl (Z 5))), (q 7, .inl (T 0, 60, .inl (Z 7))), (q 13, .inl (T 0, 8, .inl (Z 13))), (q 15, .inl (T 0, 3, .inl (Z 15)))] H := hP
  have hD : va_D A [(q 0, .inr (8, [.int (nI 0), .ref (q 2), .ref (q 3), .int (Z 0 3), .ref (q 5), .int (Z 0 5), .ref (q 7), .int (Z 0 7), .int (Z 0 8), .int (Z 0 9), .int (Z 0 10), .int (Z 0 11), .ref (q 13), .int (Z 0 13), .ref (q 15), .long g])), (q 2, .inl (T 0, 267, .inl (Z 2))), (q 3, .inl (T 0, 1602, .inl (Z 3))), (q 5, .inl (T 0, 267, .inl (Z 5))), (q 7, .inl (T 0, 60, .inl (Z 7))), (q 13, .inl (T 0, 8, .inl (Z 13))), (q 15, .inl (T 0, 3, .inl (Z 15)))] := hD
  refine lv_iload_n hx hb dX8_message_5 rfl (lv_at hl 1 rfl) ?_
  refine k_roS (As := [.int (nI mm)]) (rest := []) (wc := []) (d := 1) (v := bI (pWi (nI mm) (nI 0) (nI 19))) cx (c_X8_isMessage l G T A (nI mm) ) (va_cwS 1 hts gX8_message_X8_isMessage rfl rfl rfl (by decide +kernel) ⟨Nat.le_of_ble_eq_true rfl, Nat.le_of_ble_eq_true rfl⟩) (hP.sub (ws' := []) [] rfl) hK (hE.kept hS.2.1) rfl hl.1 rfl (Nat.le_of_ble_eq_true rfl) dX8_message_6 ⟨Nat.le_of_ble_eq_true rfl, Nat.le_of_ble_eq_true rfl⟩ ?_
  refine b_if_ne (b := pWi (nI mm) (nI 0) (nI 19)) (tgt := 18) hx hb dX8_message_9 (by decide) (fun c_1 => ?_) (fun c_2 => by exfalso; rw [pWi_n (by omega) (by omega) (by decide)] at c_2; cases c_2)
  refine lv_iload_n hx hb dX8_message_18 rfl (lv_at hl 2 rfl) ?_
  refine n_iconst hx hb 0 dX8_message_19 (by decide) ?_
  refine n_iconst hx hb 3 dX8_message_20 (by decide) ?_
  refine k_roS (As := [.int y, .int (nI 0), .int (nI 3)]) (rest := []) (wc := []) (d := 0) (v := bI (pWi y (nI 0) (nI 3))) cx (c_X8_within l G T A y (nI 0) (nI 3) ) (va_cwS 3 hts gX8_message_X8_within rfl rfl rfl (by decide +kernel) ⟨Nat.le_of_ble_eq_true rfl, Nat.le_of_ble_eq_true rfl⟩) (hP.sub (ws' := []) [] rfl) hK (hE.kept hS.2.1) rfl hl.1 rfl (Nat.le_of_ble_eq_true rfl) dX8_message_21 ⟨Nat.le_of_ble_eq_true rfl, Nat.le_of_ble_eq_true rfl⟩ ?_
  refine b_if_eq (b := pWi y (nI 0) (nI 3)) (tgt := 36) hx hb dX8_message_24 (by decide) (fun c_3 => ?_) (fun c_4 => by exfalso; rw [hno] at c_4; cases c_4)
  refine lv_aload_n hx hb dX8_message_36 rfl (lv_at hl 0 rfl) ?_
  refine n_iconst hx hb 2 dX8_message_37 (by decide) ?_
  refine k_rwV (As := [.int (nI 2)]) (rest := []) (wc := oX8 T q (sc Z 0 (nI 0)) g) (wr := []) (w1 := oX8 T q (sc (sc Z 0 (nI 0)) 0 (nI 2)) g) (d := 0) (mc := 0) (ms := 0) (v := nI 0) (isC := [0, 1, 2, 3, 4, 5, 6]) (isR := []) cx (c_X8_fails l G T H.size q (sc Z 0 (nI 0)) g (nI 2) ) (cwV 1 hts gX8_message_X8_fails rfl rfl rfl (by decide +kernel) ⟨Nat.le_of_ble_eq_true rfl, Nat.le_of_ble_eq_true rfl⟩) ⟨hP, hD, hS, hA, hE, hK, rfl, rfl, rfl, rfl, by decide⟩ (va_recv hK hP (ci := 8) (q0 := 0) rfl rfl) rfl hl.1 rfl (Nat.le_of_ble_eq_true rfl) dX8_message_38 ⟨Nat.le_of_ble_eq_true rfl, Nat.le_of_ble_eq_true rfl⟩ (fun H locs hP hD hS hz => ?_)
  have hP : va_P G vwCl [(q 0, .inr (8, [.int (nI 2), .ref (q 2), .ref (q 3), .int (Z 0 3), .ref (q 5), .int (Z 0 5), .ref (q 7), .int (Z 0 7), .int (Z 0 8), .int (Z 0 9), .int (Z 0 10), .int (Z 0 11), .ref (q 13), .int (Z 0 13), .ref (q 15), .long g])), (q 2, .inl (T 0, 267, .inl (Z 2))), (q 3, .inl (T 0, 1602, .inl (Z 3))), (q 5, .inl (T 0, 267, .inl (Z 5))), (q 7, .inl (T 0, 60, .inl (Z 7))), (q 13, .inl (T 0, 8, .inl (Z 13))), (q 15, .inl (T 0, 3, .inl (Z 15)))] H := hP
  have hD : va_D A [(q 0, .inr (8, [.int (nI 2), .ref (q 2), .ref (q 3), .int (Z 0 3), .ref (q 5), .int (Z 0 5), .ref (q 7), .int (Z 0 7), .int (Z 0 8), .int (Z 0 9), .int (Z 0 10), .int (Z 0 11), .ref (q 13), .int (Z 0 13), .ref (q 15), .long g])), (q 2, .inl (T 0, 267, .inl (Z 2))), (q 3, .inl (T 0, 1602, .inl (Z 3))), (q 5, .inl (T 0, 267, .inl (Z 5))), (q 7, .inl (T 0, 60, .inl (Z 7))), (q 13, .inl (T 0, 8, .inl (Z 13))), (q 15, .inl (T 0, 3, .inl (Z 15)))] := hD
  subst hQ
  have e_5 : (nI 2) = nI 2 := (by first | rfl | simp [bI, c_1, c_3])
  rw [e_5] at hP hD
  have hP9 : va_P G vwCl (oX8 T q (sc Z 0 (nI 2)) g) H := hP
  have hD9 : va_D A (oX8 T q (sc Z 0 (nI 2)) g) := hD
  exact e_rwi hx hb hr hlocks hS (by first | rfl | simp [bI, c_1, c_3]) hP9 hD9 dX8_message_41
set_option maxHeartbeats 4000000 in
set_option maxRecDepth 100000 in
theorem c_X8_note_2 (l : Launch) (G : va_G) (T : Nat → ClassId) (sz : Nat) (q : Nat → Nat) (Z : Nat → Nat → Int32) (g : Int64) (mm : Nat) (y : Int32) (hm20 : mm < 20) (hno : pWi y (nI 0) (nI 7) = false) : RWi l yX8_note wsX8_note 6 0 0 G T sz (oX8 T q Z g) [.ref (q 0), .int (nI mm), .int y] (nI 0) (oX8 T q (sc Z 0 (nI 2)) g) := by
  refine Met.ofW (cc := cX8_note) (maxL := 3) (ret := (some .int)) (by decide) rfl ?_
  intro p e s m args below meth c s₁ B hml hv
  obtain ⟨ha, hsz, hP, hK, hD0, hE0⟩ := hv
  have hx := B.exec
  have hb := B.bytes
  have hr := B.returns
  have hlocks := B.notSynchronized
  have hts := atoms_spec (ws := wsX8_note) B.pre
  have hown : s.vm.findClass RX8 = some m.cls := findClass_of_methodNamed B.named
  have cx : CallFix p m c cX8_note 3 s args wsX8_note RX8 := ⟨hx, hb, hml, hown, hts⟩
  subst hsz
  have hD := hD0.self (sz := s.heap.size)
  generalize hAe : va_A (oX8 T q Z g) s.heap.size = A at hD hE0 ⊢
  have hE : gE A s s.heap := hE0
  have hA : ∀ q : Nat, s.heap.size ≤ q → A q := fun q h => by rw [← hAe]; exact Or.inr h
  have hS : va_S A s.heap s.heap [] := va_S.rf
  refine w_entry ha (Nat.le_of_ble_eq_true rfl) (fun ls hl => ?_)
  refine w_q (fun Q0 hQ => ?_)
  have lk28 := hts (.fieldLink RX8 28 "WhistleTunesModel" "thrown" "I") (by decide +kernel)
  have hinX8 : ∀ w ∈ wsX80, w ∈ wsX8_note := by decide +kernel
  have hl : lv_has ls 3 [(0, .ref (q 0)), (1, .int (nI mm)), (2, .int y)] := hl
  have hP : va_P G vwCl [(q 0, .inr (8, [.int (Z 0 0), .ref (q 2), .ref (q 3), .int (Z 0 3), .ref (q 5), .int (Z 0 5), .ref (q 7), .int (Z 0 7), .int (Z 0 8), .int (Z 0 9), .int (Z 0 10), .int (Z 0 11), .ref (q 13), .int (Z 0 13), .ref (q 15), .long g])), (q 2, .inl (T 0, 267, .inl (Z 2))), (q 3, .inl (T 0, 1602, .inl (Z 3))), (q 5, .inl (T 0, 267, .inl (Z 5))), (q 7, .inl (T 0, 60, .inl (Z 7))), (q 13, .inl (T 0, 8, .inl (Z 13))), (q 15, .inl (T 0, 3, .inl (Z 15)))] s.heap := hP
  have hD : va_D A [(q 0, .inr (8, [.int (Z 0 0), .ref (q 2), .ref (q 3), .int (Z 0 3), .ref (q 5), .int (Z 0 5), .ref (q 7), .int (Z 0 7), .int (Z 0 8), .int (Z 0 9), .int (Z 0 10), .int (Z 0 11), .ref (q 13), .int (Z 0 13), .ref (q 15), .long g])), (q 2, .inl (T 0, 267, .inl (Z 2))), (q 3, .inl (T 0, 1602, .inl (Z 3))), (q 5, .inl (T 0, 267, .inl (Z 5))), (q 7, .inl (T 0, 60, .inl (Z 7))), (q 13, .inl (T 0, 8, .inl (Z 13))), (q 15, .inl (T 0, 3, .inl (Z 15)))] := hD
  skip
  refine w_h (fun H locs hHe hLe => ?_)
  have hP : va_P G vwCl [(q 0, .inr (8, [.int (Z 0 0), .ref (q 2), .ref (q 3), .int (Z 0 3), .ref (q 5), .int (Z 0 5), .ref (q 7), .int (Z 0 7), .int (Z 0 8), .int (Z 0 9), .int (Z 0 10), .int (Z 0 11), .ref (q 13), .int (Z 0 13), .ref (q 15), .long g])), (q 2, .inl (T 0, 267, .inl (Z 2))), (q 3, .inl (T 0, 1602, .inl (Z 3))), (q 5, .inl (T 0, 267, .inl (Z 5))), (q 7, .inl (T 0, 60, .inl (Z 7))), (q 13, .inl (T 0, 8, .inl (Z 13))), (q 15, .inl (T 0, 3, .inl (Z 15)))] H := by rw [hHe]; exact hP
  have hS : va_S A s.heap H locs := by rw [hHe, hLe]; exact hS
  refine lv_aload_n hx hb dX8_note_0 rfl (lv_at hl 0 rfl) ?_
  refine n_iconst hx hb 0 dX8_note_1 (by decide) ?_
  refine va_put (D := G) (ci := 8) (v := .int (nI 0)) (ty := .int) (C := RX8) (T := TX8) (N := 16) hx hb hts hinX8 tyX8 tyX8_ok nmX8 hown hK hP hD hS 0 rfl rfl 0 (by decide) lk28 (fun _ h9 => h9) rfl (by decide +kernel) rfl rfl (Nat.le_of_ble_eq_true rfl) dX8_note_2 (fun H locs hP hD hS => ?_)
  have hP : va_P G vwCl [(q 0, .inr (8, [.int (nI 0), .ref (q 2), .ref (q 3), .int (Z 0 3), .ref (q 5), .int (Z 0 5), .ref (q 7), .int (Z 0 7), .int (Z 0 8), .int (Z 0 9), .int (Z 0 10), .int (Z 0 11), .ref (q 13), .int (Z 0 13), .ref (q 15), .long g])), (q 2, .inl (T 0, 267, .inl (Z 2))), (q 3, .inl (T 0, 1602, .inl (Z 3))), (q 5, .inl (T 0, 267, .inl (Z 5))), (q 7, .inl (T 0, 60, .inl (Z 7))), (q 13, .inl (T 0, 8, .inl (Z 13))), (q 15, .inl (T 0, 3, .inl (Z 15)))] H := hP
  have hD : va_D A [(q 0, .inr (8, [.int (nI 0), .ref (q 2), .ref (q 3), .int (Z 0 3), .ref (q 5), .int (Z 0 5), .ref (q 7), .int (Z 0 7), .int (Z 0 8), .int (Z 0 9), .int (Z 0 10), .int (Z 0 11), .ref (q 13), .int (Z 0 13), .ref (q 15), .long g])), (q 2, .inl (T 0, 267, .inl (Z 2))), (q 3, .inl (T 0, 1602, .inl (Z 3))), (q 5, .inl (T 0, 267, .inl (Z 5))), (q 7, .inl (T 0, 60, .inl (Z 7))), (q 13, .inl (T 0, 8, .inl (Z 13))), (q 15, .inl (T 0, 3, .inl (Z 15)))] := hD
  refine lv_iload_n hx hb dX8_note_5 rfl (lv_at hl 1 rfl) ?_
  refine k_roS (As := [.int (nI mm)]) (rest := []) (wc := []) (d := 1) (v := bI (pWi (nI mm) (nI 0) (nI 19))) cx (c_X8_isMessage l G T A (nI mm) ) (va_cwS 1 hts gX8_note_X8_isMessage rfl rfl rfl (by decide +kernel) ⟨Nat.le_of_ble_eq_true rfl, Nat.le_of_ble_eq_true rfl⟩) (hP.sub (ws' := []) [] rfl) hK (hE.kept hS.2.1) rfl hl.1 rfl (Nat.le_of_ble_eq_true rfl) dX8_note_6 ⟨Nat.le_of_ble_eq_true rfl, Nat.le_of_ble_eq_true rfl⟩ ?_
  refine b_if_ne (b := pWi (nI mm) (nI 0) (nI 19)) (tgt := 18) hx hb dX8_note_9 (by decide) (fun c_1 => ?_) (fun c_2 => by exfalso; rw [pWi_n (by omega) (by omega) (by decide)] at c_2; cases c_2)
  refine lv_iload_n hx hb dX8_note_18 rfl (lv_at hl 2 rfl) ?_
  refine n_iconst hx hb 0 dX8_note_19 (by decide) ?_
  refine lv_bipush (v := nI 7) hx hb dX8_note_20 (by decide) ?_
  refine k_roS (As := [.int y, .int (nI 0), .int (nI 7)]) (rest := []) (wc := []) (d := 0) (v := bI (pWi y (nI 0) (nI 7))) cx (c_X8_within l G T A y (nI 0) (nI 7) ) (va_cwS 3 hts gX8_note_X8_within rfl rfl rfl (by decide +kernel) ⟨Nat.le_of_ble_eq_true rfl, Nat.le_of_ble_eq_true rfl⟩) (hP.sub (ws' := []) [] rfl) hK (hE.kept hS.2.1) rfl hl.1 rfl (Nat.le_of_ble_eq_true rfl) dX8_note_22 ⟨Nat.le_of_ble_eq_true rfl, Nat.le_of_ble_eq_true rfl⟩ ?_
  refine b_if_eq (b := pWi y (nI 0) (nI 7)) (tgt := 37) hx hb dX8_note_25 (by decide) (fun c_3 => ?_) (fun c_4 => by exfalso; rw [hno] at c_4; cases c_4)
  refine lv_aload_n hx hb dX8_note_37 rfl (lv_at hl 0 rfl) ?_
  refine n_iconst hx hb 2 dX8_note_38 (by decide) ?_
  refine k_rwV (As := [.int (nI 2)]) (rest := []) (wc := oX8 T q (sc Z 0 (nI 0)) g) (wr := []) (w1 := oX8 T q (sc (sc Z 0 (nI 0)) 0 (nI 2)) g) (d := 0) (mc := 0) (ms := 0) (v := nI 0) (isC := [0, 1, 2, 3, 4, 5, 6]) (isR := []) cx (c_X8_fails l G T H.size q (sc Z 0 (nI 0)) g (nI 2) ) (cwV 1 hts gX8_note_X8_fails rfl rfl rfl (by decide +kernel) ⟨Nat.le_of_ble_eq_true rfl, Nat.le_of_ble_eq_true rfl⟩) ⟨hP, hD, hS, hA, hE, hK, rfl, rfl, rfl, rfl, by decide⟩ (va_recv hK hP (ci := 8) (q0 := 0) rfl rfl) rfl hl.1 rfl (Nat.le_of_ble_eq_true rfl) dX8_note_39 ⟨Nat.le_of_ble_eq_true rfl, Nat.le_of_ble_eq_true rfl⟩ (fun H locs hP hD hS hz => ?_)
  have hP : va_P G vwCl [(q 0, .inr (8, [.int (nI 2), .ref (q 2), .ref (q 3), .int (Z 0 3), .ref (q 5), .int (Z 0 5), .ref (q 7), .int (Z 0 7), .int (Z 0 8), .int (Z 0 9), .int (Z 0 10), .int (Z 0 11), .ref (q 13), .int (Z 0 13), .ref (q 15), .long g])), (q 2, .inl (T 0, 267, .inl (Z 2))), (q 3, .inl (T 0, 1602, .inl (Z 3))), (q 5, .inl (T 0, 267, .inl (Z 5))), (q 7, .inl (T 0, 60, .inl (Z 7))), (q 13, .inl (T 0, 8, .inl (Z 13))), (q 15, .inl (T 0, 3, .inl (Z 15)))] H := hP
  have hD : va_D A [(q 0, .inr (8, [.int (nI 2), .ref (q 2), .ref (q 3), .int (Z 0 3), .ref (q 5), .int (Z 0 5), .ref (q 7), .int (Z 0 7), .int (Z 0 8), .int (Z 0 9), .int (Z 0 10), .int (Z 0 11), .ref (q 13), .int (Z 0 13), .ref (q 15), .long g])), (q 2, .inl (T 0, 267, .inl (Z 2))), (q 3, .inl (T 0, 1602, .inl (Z 3))), (q 5, .inl (T 0, 267, .inl (Z 5))), (q 7, .inl (T 0, 60, .inl (Z 7))), (q 13, .inl (T 0, 8, .inl (Z 13))), (q 15, .inl (T 0, 3, .inl (Z 15)))] := hD
  subst hQ
  have e_5 : (nI 2) = nI 2 := (by first | rfl | simp [bI, c_1, c_3])
  rw [e_5] at hP hD
  have hP9 : va_P G vwCl (oX8 T q (sc Z 0 (nI 2)) g) H := hP
  have hD9 : va_D A (oX8 T q (sc Z 0 (nI 2)) g) := hD
  exact e_rwi hx hb hr hlocks hS (by first | rfl | simp [bI, c_1, c_3]) hP9 hD9 dX8_note_42
set_option maxHeartbeats 4000000 in
set_option maxRecDepth 100000 in
theorem c_X8_room_2 (l : Launch) (G : va_G) (T : Nat → ClassId) (sz : Nat) (q : Nat → Nat) (Z : Nat → Nat → Int32) (g : Int64) (r : Nat) (y : Int32) (hr6 : r < 6) (hno : pWi y (nI 0) (nI 5) = false) : RWi l yX8_room wsX8_room 6 0 0 G T sz (oX8 T q Z g) [.ref (q 0), .int (nI r), .int y] (nI 0) (oX8 T q (sc Z 0 (nI 2)) g) := by
  refine Met.ofW (cc := cX8_room) (maxL := 3) (ret := (some .int)) (by decide) rfl ?_
  intro p e s m args below meth c s₁ B hml hv
  obtain ⟨ha, hsz, hP, hK, hD0, hE0⟩ := hv
  have hx := B.exec
  have hb := B.bytes
  have hr := B.returns
  have hlocks := B.notSynchronized
  have hts := atoms_spec (ws := wsX8_room) B.pre
  have hown : s.vm.findClass RX8 = some m.cls := findClass_of_methodNamed B.named
  have cx : CallFix p m c cX8_room 3 s args wsX8_room RX8 := ⟨hx, hb, hml, hown, hts⟩
  subst hsz
  have hD := hD0.self (sz := s.heap.size)
  generalize hAe : va_A (oX8 T q Z g) s.heap.size = A at hD hE0 ⊢
  have hE : gE A s s.heap := hE0
  have hA : ∀ q : Nat, s.heap.size ≤ q → A q := fun q h => by rw [← hAe]; exact Or.inr h
  have hS : va_S A s.heap s.heap [] := va_S.rf
  refine w_entry ha (Nat.le_of_ble_eq_true rfl) (fun ls hl => ?_)
  refine w_q (fun Q0 hQ => ?_)
  have lk28 := hts (.fieldLink RX8 28 "WhistleTunesModel" "thrown" "I") (by decide +kernel)
  have hinX8 : ∀ w ∈ wsX80, w ∈ wsX8_room := by decide +kernel
  have hl : lv_has ls 3 [(0, .ref (q 0)), (1, .int (nI r)), (2, .int y)] := hl
  have hP : va_P G vwCl [(q 0, .inr (8, [.int (Z 0 0), .ref (q 2), .ref (q 3), .int (Z 0 3), .ref (q 5), .int (Z 0 5), .ref (q 7), .int (Z 0 7), .int (Z 0 8), .int (Z 0 9), .int (Z 0 10), .int (Z 0 11), .ref (q 13), .int (Z 0 13), .ref (q 15), .long g])), (q 2, .inl (T 0, 267, .inl (Z 2))), (q 3, .inl (T 0, 1602, .inl (Z 3))), (q 5, .inl (T 0, 267, .inl (Z 5))), (q 7, .inl (T 0, 60, .inl (Z 7))), (q 13, .inl (T 0, 8, .inl (Z 13))), (q 15, .inl (T 0, 3, .inl (Z 15)))] s.heap := hP
  have hD : va_D A [(q 0, .inr (8, [.int (Z 0 0), .ref (q 2), .ref (q 3), .int (Z 0 3), .ref (q 5), .int (Z 0 5), .ref (q 7), .int (Z 0 7), .int (Z 0 8), .int (Z 0 9), .int (Z 0 10), .int (Z 0 11), .ref (q 13), .int (Z 0 13), .ref (q 15), .long g])), (q 2, .inl (T 0, 267, .inl (Z 2))), (q 3, .inl (T 0, 1602, .inl (Z 3))), (q 5, .inl (T 0, 267, .inl (Z 5))), (q 7, .inl (T 0, 60, .inl (Z 7))), (q 13, .inl (T 0, 8, .inl (Z 13))), (q 15, .inl (T 0, 3, .inl (Z 15)))] := hD
  skip
  refine w_h (fun H locs hHe hLe => ?_)
  have hP : va_P G vwCl [(q 0, .inr (8, [.int (Z 0 0), .ref (q 2), .ref (q 3), .int (Z 0 3), .ref (q 5), .int (Z 0 5), .ref (q 7), .int (Z 0 7), .int (Z 0 8), .int (Z 0 9), .int (Z 0 10), .int (Z 0 11), .ref (q 13), .int (Z 0 13), .ref (q 15), .long g])), (q 2, .inl (T 0, 267, .inl (Z 2))), (q 3, .inl (T 0, 1602, .inl (Z 3))), (q 5, .inl (T 0, 267, .inl (Z 5))), (q 7, .inl (T 0, 60, .inl (Z 7))), (q 13, .inl (T 0, 8, .inl (Z 13))), (q 15, .inl (T 0, 3, .inl (Z 15)))] H := by rw [hHe]; exact hP
  have hS : va_S A s.heap H locs := by rw [hHe, hLe]; exact hS
  refine lv_aload_n hx hb dX8_room_0 rfl (lv_at hl 0 rfl) ?_
  refine n_iconst hx hb 0 dX8_room_1 (by decide) ?_
  refine va_put (D := G) (ci := 8) (v := .int (nI 0)) (ty := .int) (C := RX8) (T := TX8) (N := 16) hx hb hts hinX8 tyX8 tyX8_ok nmX8 hown hK hP hD hS 0 rfl rfl 0 (by decide) lk28 (fun _ h9 => h9) rfl (by decide +kernel) rfl rfl (Nat.le_of_ble_eq_true rfl) dX8_room_2 (fun H locs hP hD hS => ?_)
  have hP : va_P G vwCl [(q 0, .inr (8, [.int (nI 0), .ref (q 2), .ref (q 3), .int (Z 0 3), .ref (q 5), .int (Z 0 5), .ref (q 7), .int (Z 0 7), .int (Z 0 8), .int (Z 0 9), .int (Z 0 10), .int (Z 0 11), .ref (q 13), .int (Z 0 13), .ref (q 15), .long g])), (q 2, .inl (T 0, 267, .inl (Z 2))), (q 3, .inl (T 0, 1602, .inl (Z 3))), (q 5, .inl (T 0, 267, .inl (Z 5))), (q 7, .inl (T 0, 60, .inl (Z 7))), (q 13, .inl (T 0, 8, .inl (Z 13))), (q 15, .inl (T 0, 3, .inl (Z 15)))] H := hP
  have hD : va_D A [(q 0, .inr (8, [.int (nI 0), .ref (q 2), .ref (q 3), .int (Z 0 3), .ref (q 5), .int (Z 0 5), .ref (q 7), .int (Z 0 7), .int (Z 0 8), .int (Z 0 9), .int (Z 0 10), .int (Z 0 11), .ref (q 13), .int (Z 0 13), .ref (q 15), .long g])), (q 2, .inl (T 0, 267, .inl (Z 2))), (q 3, .inl (T 0, 1602, .inl (Z 3))), (q 5, .inl (T 0, 267, .inl (Z 5))), (q 7, .inl (T 0, 60, .inl (Z 7))), (q 13, .inl (T 0, 8, .inl (Z 13))), (q 15, .inl (T 0, 3, .inl (Z 15)))] := hD
  refine lv_iload_n hx hb dX8_room_5 rfl (lv_at hl 1 rfl) ?_
  refine k_roS (As := [.int (nI r)]) (rest := []) (wc := []) (d := 1) (v := bI (pWi (nI r) (nI 0) (nI 5))) cx (c_X8_isRoom l G T A (nI r) ) (va_cwS 1 hts gX8_room_X8_isRoom rfl rfl rfl (by decide +kernel) ⟨Nat.le_of_ble_eq_true rfl, Nat.le_of_ble_eq_true rfl⟩) (hP.sub (ws' := []) [] rfl) hK (hE.kept hS.2.1) rfl hl.1 rfl (Nat.le_of_ble_eq_true rfl) dX8_room_6 ⟨Nat.le_of_ble_eq_true rfl, Nat.le_of_ble_eq_true rfl⟩ ?_
  refine b_if_ne (b := pWi (nI r) (nI 0) (nI 5)) (tgt := 18) hx hb dX8_room_9 (by decide) (fun c_1 => ?_) (fun c_2 => by exfalso; rw [pWi_n (by omega) (by omega) (by decide)] at c_2; cases c_2)
  refine lv_iload_n hx hb dX8_room_18 rfl (lv_at hl 2 rfl) ?_
  refine n_iconst hx hb 0 dX8_room_19 (by decide) ?_
  refine n_iconst hx hb 5 dX8_room_20 (by decide) ?_
  refine k_roS (As := [.int y, .int (nI 0), .int (nI 5)]) (rest := []) (wc := []) (d := 0) (v := bI (pWi y (nI 0) (nI 5))) cx (c_X8_within l G T A y (nI 0) (nI 5) ) (va_cwS 3 hts gX8_room_X8_within rfl rfl rfl (by decide +kernel) ⟨Nat.le_of_ble_eq_true rfl, Nat.le_of_ble_eq_true rfl⟩) (hP.sub (ws' := []) [] rfl) hK (hE.kept hS.2.1) rfl hl.1 rfl (Nat.le_of_ble_eq_true rfl) dX8_room_21 ⟨Nat.le_of_ble_eq_true rfl, Nat.le_of_ble_eq_true rfl⟩ ?_
  refine b_if_eq (b := pWi y (nI 0) (nI 5)) (tgt := 36) hx hb dX8_room_24 (by decide) (fun c_3 => ?_) (fun c_4 => by exfalso; rw [hno] at c_4; cases c_4)
  refine lv_aload_n hx hb dX8_room_36 rfl (lv_at hl 0 rfl) ?_
  refine n_iconst hx hb 2 dX8_room_37 (by decide) ?_
  refine k_rwV (As := [.int (nI 2)]) (rest := []) (wc := oX8 T q (sc Z 0 (nI 0)) g) (wr := []) (w1 := oX8 T q (sc (sc Z 0 (nI 0)) 0 (nI 2)) g) (d := 0) (mc := 0) (ms := 0) (v := nI 0) (isC := [0, 1, 2, 3, 4, 5, 6]) (isR := []) cx (c_X8_fails l G T H.size q (sc Z 0 (nI 0)) g (nI 2) ) (cwV 1 hts gX8_room_X8_fails rfl rfl rfl (by decide +kernel) ⟨Nat.le_of_ble_eq_true rfl, Nat.le_of_ble_eq_true rfl⟩) ⟨hP, hD, hS, hA, hE, hK, rfl, rfl, rfl, rfl, by decide⟩ (va_recv hK hP (ci := 8) (q0 := 0) rfl rfl) rfl hl.1 rfl (Nat.le_of_ble_eq_true rfl) dX8_room_38 ⟨Nat.le_of_ble_eq_true rfl, Nat.le_of_ble_eq_true rfl⟩ (fun H locs hP hD hS hz => ?_)
  have hP : va_P G vwCl [(q 0, .inr (8, [.int (nI 2), .ref (q 2), .ref (q 3), .int (Z 0 3), .ref (q 5), .int (Z 0 5), .ref (q 7), .int (Z 0 7), .int (Z 0 8), .int (Z 0 9), .int (Z 0 10), .int (Z 0 11), .ref (q 13), .int (Z 0 13), .ref (q 15), .long g])), (q 2, .inl (T 0, 267, .inl (Z 2))), (q 3, .inl (T 0, 1602, .inl (Z 3))), (q 5, .inl (T 0, 267, .inl (Z 5))), (q 7, .inl (T 0, 60, .inl (Z 7))), (q 13, .inl (T 0, 8, .inl (Z 13))), (q 15, .inl (T 0, 3, .inl (Z 15)))] H := hP
  have hD : va_D A [(q 0, .inr (8, [.int (nI 2), .ref (q 2), .ref (q 3), .int (Z 0 3), .ref (q 5), .int (Z 0 5), .ref (q 7), .int (Z 0 7), .int (Z 0 8), .int (Z 0 9), .int (Z 0 10), .int (Z 0 11), .ref (q 13), .int (Z 0 13), .ref (q 15), .long g])), (q 2, .inl (T 0, 267, .inl (Z 2))), (q 3, .inl (T 0, 1602, .inl (Z 3))), (q 5, .inl (T 0, 267, .inl (Z 5))), (q 7, .inl (T 0, 60, .inl (Z 7))), (q 13, .inl (T 0, 8, .inl (Z 13))), (q 15, .inl (T 0, 3, .inl (Z 15)))] := hD
  subst hQ
  have e_5 : (nI 2) = nI 2 := (by first | rfl | simp [bI, c_1, c_3])
  rw [e_5] at hP hD
  have hP9 : va_P G vwCl (oX8 T q (sc Z 0 (nI 2)) g) H := hP
  have hD9 : va_D A (oX8 T q (sc Z 0 (nI 2)) g) := hD
  exact e_rwi hx hb hr hlocks hS (by first | rfl | simp [bI, c_1, c_3]) hP9 hD9 dX8_room_41
set_option maxHeartbeats 4000000 in
set_option maxRecDepth 100000 in
theorem c_X8_set_2 (l : Launch) (G : va_G) (T : Nat → ClassId) (sz : Nat) (q : Nat → Nat) (Z : Nat → Nat → Int32) (g : Int64) (r : Nat) (y : Int32) (hr2 : r < 2) (hno : pWi y (nI r) (nI (if r = 0 then 2 else 9)) = false) : RWi l yX8_set wsX8_set 6 0 0 G T sz (oX8 T q Z g) [.ref (q 0), .int (nI r), .int y] (nI 0) (oX8 T q (sc Z 0 (nI 2)) g) := by
  refine Met.ofW (cc := cX8_set) (maxL := 4) (ret := (some .int)) (by decide) rfl ?_
  intro p e s m args below meth c s₁ B hml hv
  obtain ⟨ha, hsz, hP, hK, hD0, hE0⟩ := hv
  have hx := B.exec
  have hb := B.bytes
  have hr := B.returns
  have hlocks := B.notSynchronized
  have hts := atoms_spec (ws := wsX8_set) B.pre
  have hown : s.vm.findClass RX8 = some m.cls := findClass_of_methodNamed B.named
  have cx : CallFix p m c cX8_set 4 s args wsX8_set RX8 := ⟨hx, hb, hml, hown, hts⟩
  subst hsz
  have hD := hD0.self (sz := s.heap.size)
  generalize hAe : va_A (oX8 T q Z g) s.heap.size = A at hD hE0 ⊢
  have hE : gE A s s.heap := hE0
  have hA : ∀ q : Nat, s.heap.size ≤ q → A q := fun q h => by rw [← hAe]; exact Or.inr h
  have hS : va_S A s.heap s.heap [] := va_S.rf
  refine w_entry ha (Nat.le_of_ble_eq_true rfl) (fun ls hl => ?_)
  refine w_q (fun Q0 hQ => ?_)
  have lk28 := hts (.fieldLink RX8 28 "WhistleTunesModel" "thrown" "I") (by decide +kernel)
  have hinX8 : ∀ w ∈ wsX80, w ∈ wsX8_set := by decide +kernel
  have hl : lv_has ls 4 [(0, .ref (q 0)), (1, .int (nI r)), (2, .int y)] := hl
  have hP : va_P G vwCl [(q 0, .inr (8, [.int (Z 0 0), .ref (q 2), .ref (q 3), .int (Z 0 3), .ref (q 5), .int (Z 0 5), .ref (q 7), .int (Z 0 7), .int (Z 0 8), .int (Z 0 9), .int (Z 0 10), .int (Z 0 11), .ref (q 13), .int (Z 0 13), .ref (q 15), .long g])), (q 2, .inl (T 0, 267, .inl (Z 2))), (q 3, .inl (T 0, 1602, .inl (Z 3))), (q 5, .inl (T 0, 267, .inl (Z 5))), (q 7, .inl (T 0, 60, .inl (Z 7))), (q 13, .inl (T 0, 8, .inl (Z 13))), (q 15, .inl (T 0, 3, .inl (Z 15)))] s.heap := hP
  have hD : va_D A [(q 0, .inr (8, [.int (Z 0 0), .ref (q 2), .ref (q 3), .int (Z 0 3), .ref (q 5), .int (Z 0 5), .ref (q 7), .int (Z 0 7), .int (Z 0 8), .int (Z 0 9), .int (Z 0 10), .int (Z 0 11), .ref (q 13), .int (Z 0 13), .ref (q 15), .long g])), (q 2, .inl (T 0, 267, .inl (Z 2))), (q 3, .inl (T 0, 1602, .inl (Z 3))), (q 5, .inl (T 0, 267, .inl (Z 5))), (q 7, .inl (T 0, 60, .inl (Z 7))), (q 13, .inl (T 0, 8, .inl (Z 13))), (q 15, .inl (T 0, 3, .inl (Z 15)))] := hD
  skip
  refine w_h (fun H locs hHe hLe => ?_)
  have hP : va_P G vwCl [(q 0, .inr (8, [.int (Z 0 0), .ref (q 2), .ref (q 3), .int (Z 0 3), .ref (q 5), .int (Z 0 5), .ref (q 7), .int (Z 0 7), .int (Z 0 8), .int (Z 0 9), .int (Z 0 10), .int (Z 0 11), .ref (q 13), .int (Z 0 13), .ref (q 15), .long g])), (q 2, .inl (T 0, 267, .inl (Z 2))), (q 3, .inl (T 0, 1602, .inl (Z 3))), (q 5, .inl (T 0, 267, .inl (Z 5))), (q 7, .inl (T 0, 60, .inl (Z 7))), (q 13, .inl (T 0, 8, .inl (Z 13))), (q 15, .inl (T 0, 3, .inl (Z 15)))] H := by rw [hHe]; exact hP
  have hS : va_S A s.heap H locs := by rw [hHe, hLe]; exact hS
  refine lv_aload_n hx hb dX8_set_0 rfl (lv_at hl 0 rfl) ?_
  refine n_iconst hx hb 0 dX8_set_1 (by decide) ?_
  refine va_put (D := G) (ci := 8) (v := .int (nI 0)) (ty := .int) (C := RX8) (T := TX8) (N := 16) hx hb hts hinX8 tyX8 tyX8_ok nmX8 hown hK hP hD hS 0 rfl rfl 0 (by decide) lk28 (fun _ h9 => h9) rfl (by decide +kernel) rfl rfl (Nat.le_of_ble_eq_true rfl) dX8_set_2 (fun H locs hP hD hS => ?_)
  have hP : va_P G vwCl [(q 0, .inr (8, [.int (nI 0), .ref (q 2), .ref (q 3), .int (Z 0 3), .ref (q 5), .int (Z 0 5), .ref (q 7), .int (Z 0 7), .int (Z 0 8), .int (Z 0 9), .int (Z 0 10), .int (Z 0 11), .ref (q 13), .int (Z 0 13), .ref (q 15), .long g])), (q 2, .inl (T 0, 267, .inl (Z 2))), (q 3, .inl (T 0, 1602, .inl (Z 3))), (q 5, .inl (T 0, 267, .inl (Z 5))), (q 7, .inl (T 0, 60, .inl (Z 7))), (q 13, .inl (T 0, 8, .inl (Z 13))), (q 15, .inl (T 0, 3, .inl (Z 15)))] H := hP
  have hD : va_D A [(q 0, .inr (8, [.int (nI 0), .ref (q 2), .ref (q 3), .int (Z 0 3), .ref (q 5), .int (Z 0 5), .ref (q 7), .int (Z 0 7), .int (Z 0 8), .int (Z 0 9), .int (Z 0 10), .int (Z 0 11), .ref (q 13), .int (Z 0 13), .ref (q 15), .long g])), (q 2, .inl (T 0, 267, .inl (Z 2))), (q 3, .inl (T 0, 1602, .inl (Z 3))), (q 5, .inl (T 0, 267, .inl (Z 5))), (q 7, .inl (T 0, 60, .inl (Z 7))), (q 13, .inl (T 0, 8, .inl (Z 13))), (q 15, .inl (T 0, 3, .inl (Z 15)))] := hD
  refine lv_iload_n hx hb dX8_set_5 rfl (lv_at hl 1 rfl) ?_
  refine n_iconst hx hb 0 dX8_set_6 (by decide) ?_
  refine n_iconst hx hb 1 dX8_set_7 (by decide) ?_
  refine k_roS (As := [.int (nI r), .int (nI 0), .int (nI 1)]) (rest := []) (wc := []) (d := 0) (v := bI (pWi (nI r) (nI 0) (nI 1))) cx (c_X8_within l G T A (nI r) (nI 0) (nI 1) ) (va_cwS 3 hts gX8_set_X8_within rfl rfl rfl (by decide +kernel) ⟨Nat.le_of_ble_eq_true rfl, Nat.le_of_ble_eq_true rfl⟩) (hP.sub (ws' := []) [] rfl) hK (hE.kept hS.2.1) rfl hl.1 rfl (Nat.le_of_ble_eq_true rfl) dX8_set_8 ⟨Nat.le_of_ble_eq_true rfl, Nat.le_of_ble_eq_true rfl⟩ ?_
  refine b_if_ne (b := pWi (nI r) (nI 0) (nI 1)) (tgt := 20) hx hb dX8_set_11 (by decide) (fun c_1 => ?_) (fun c_2 => by exfalso; rw [pWi_n (by omega) (by omega) (by decide)] at c_2; cases c_2)
  refine lv_iload_n hx hb dX8_set_20 rfl (lv_at hl 2 rfl) ?_
  refine lv_iload_n hx hb dX8_set_21 rfl (lv_at hl 1 rfl) ?_
  refine lv_iload_n hx hb dX8_set_22 rfl (lv_at hl 1 rfl) ?_
  have J_3 : ∀ y9 : Int32, y9 = (nI (if r = 0 then 2 else 9)) → W p l e (headSpec wsX8_set (rmD 6 0 0)).room s m args below meth c H locs 0 0 Q0 (F0 m 32 ls (.int y9 :: .int (nI r) :: .int y :: [])) := by
    intro y9 hy9
    subst hy9
    refine k_roS (As := [.int y, .int (nI r), .int (nI (if r = 0 then 2 else 9))]) (rest := []) (wc := []) (d := 0) (v := bI (pWi y (nI r) (nI (if r = 0 then 2 else 9)))) cx (c_X8_within l G T A y (nI r) (nI (if r = 0 then 2 else 9)) ) (va_cwS 3 hts gX8_set_X8_within rfl rfl rfl (by decide +kernel) ⟨Nat.le_of_ble_eq_true rfl, Nat.le_of_ble_eq_true rfl⟩) (hP.sub (ws' := []) [] rfl) hK (hE.kept hS.2.1) rfl hl.1 rfl (Nat.le_of_ble_eq_true rfl) dX8_set_32 ⟨Nat.le_of_ble_eq_true rfl, Nat.le_of_ble_eq_true rfl⟩ ?_
    refine b_if_ne (b := pWi y (nI r) (nI (if r = 0 then 2 else 9))) (tgt := 44) hx hb dX8_set_35 (by decide) (fun c_4 => by exfalso; rw [hno] at c_4; cases c_4) (fun c_5 => ?_)
    refine lv_aload_n hx hb dX8_set_38 rfl (lv_at hl 0 rfl) ?_
    refine n_iconst hx hb 2 dX8_set_39 (by decide) ?_
    refine k_rwV (As := [.int (nI 2)]) (rest := []) (wc := oX8 T q (sc Z 0 (nI 0)) g) (wr := []) (w1 := oX8 T q (sc (sc Z 0 (nI 0)) 0 (nI 2)) g) (d := 0) (mc := 0) (ms := 0) (v := nI 0) (isC := [0, 1, 2, 3, 4, 5, 6]) (isR := []) cx (c_X8_fails l G T H.size q (sc Z 0 (nI 0)) g (nI 2) ) (cwV 1 hts gX8_set_X8_fails rfl rfl rfl (by decide +kernel) ⟨Nat.le_of_ble_eq_true rfl, Nat.le_of_ble_eq_true rfl⟩) ⟨hP, hD, hS, hA, hE, hK, rfl, rfl, rfl, rfl, by decide⟩ (va_recv hK hP (ci := 8) (q0 := 0) rfl rfl) rfl hl.1 rfl (Nat.le_of_ble_eq_true rfl) dX8_set_40 ⟨Nat.le_of_ble_eq_true rfl, Nat.le_of_ble_eq_true rfl⟩ (fun H locs hP hD hS hz => ?_)
    have hP : va_P G vwCl [(q 0, .inr (8, [.int (nI 2), .ref (q 2), .ref (q 3), .int (Z 0 3), .ref (q 5), .int (Z 0 5), .ref (q 7), .int (Z 0 7), .int (Z 0 8), .int (Z 0 9), .int (Z 0 10), .int (Z 0 11), .ref (q 13), .int (Z 0 13), .ref (q 15), .long g])), (q 2, .inl (T 0, 267, .inl (Z 2))), (q 3, .inl (T 0, 1602, .inl (Z 3))), (q 5, .inl (T 0, 267, .inl (Z 5))), (q 7, .inl (T 0, 60, .inl (Z 7))), (q 13, .inl (T 0, 8, .inl (Z 13))), (q 15, .inl (T 0, 3, .inl (Z 15)))] H := hP
    have hD : va_D A [(q 0, .inr (8, [.int (nI 2), .ref (q 2), .ref (q 3), .int (Z 0 3), .ref (q 5), .int (Z 0 5), .ref (q 7), .int (Z 0 7), .int (Z 0 8), .int (Z 0 9), .int (Z 0 10), .int (Z 0 11), .ref (q 13), .int (Z 0 13), .ref (q 15), .long g])), (q 2, .inl (T 0, 267, .inl (Z 2))), (q 3, .inl (T 0, 1602, .inl (Z 3))), (q 5, .inl (T 0, 267, .inl (Z 5))), (q 7, .inl (T 0, 60, .inl (Z 7))), (q 13, .inl (T 0, 8, .inl (Z 13))), (q 15, .inl (T 0, 3, .inl (Z 15)))] := hD
    subst hQ
    have e_6 : (nI 2) = nI 2 := (by first | rfl | simp [bI, c_1, c_5])
    rw [e_6] at hP hD
    have hP9 : va_P G vwCl (oX8 T q (sc Z 0 (nI 2)) g) H := hP
    have hD9 : va_D A (oX8 T q (sc Z 0 (nI 2)) g) := hD
    exact e_rwi hx hb hr hlocks hS (by first | rfl | simp [bI, c_1, c_5]) hP9 hD9 dX8_set_43
  refine n_if_ne (a := r) (tgt := 30) hx hb (by omega) dX8_set_23 (by decide) (fun c_7 => ?_) (fun c_8 => ?_)
  · skip
    refine lv_bipush (v := nI 9) hx hb dX8_set_30 (by decide) ?_
    exact J_3 _ (by first | rw [if_pos c_7] | rw [if_neg c_7])
  · skip
    refine n_iconst hx hb 2 dX8_set_26 (by decide) ?_
    refine lv_goto (tgt := 32) hx hb dX8_set_27 (by decide) ?_
    exact J_3 _ (by first | rw [if_pos c_8] | rw [if_neg c_8])
set_option maxHeartbeats 4000000 in
set_option maxRecDepth 100000 in
theorem c_X8_ifWhistled_2 (l : Launch) (G : va_G) (T : Nat → ClassId) (sz : Nat) (q : Nat → Nat) (Z : Nat → Nat → Int32) (g : Int64) (r : Nat) (mm : Nat) (z : Int32) (hr6 : r < 6) (hm20 : mm < 20) (hno : pWi z (nI 0) (nI 3) = false) : RWi l yX8_ifWhistled wsX8_ifWhistled 6 0 0 G T sz (oX8 T q Z g) [.ref (q 0), .int (nI r), .int (nI mm), .int z] (nI 0) (oX8 T q (sc Z 0 (nI 2)) g) := by
  refine Met.ofW (cc := cX8_ifWhistled) (maxL := 4) (ret := (some .int)) (by decide) rfl ?_
  intro p e s m args below meth c s₁ B hml hv
  obtain ⟨ha, hsz, hP, hK, hD0, hE0⟩ := hv
  have hx := B.exec
  have hb := B.bytes
  have hr := B.returns
  have hlocks := B.notSynchronized
  have hts := atoms_spec (ws := wsX8_ifWhistled) B.pre
  have hown : s.vm.findClass RX8 = some m.cls := findClass_of_methodNamed B.named
  have cx : CallFix p m c cX8_ifWhistled 4 s args wsX8_ifWhistled RX8 := ⟨hx, hb, hml, hown, hts⟩
  subst hsz
  have hD := hD0.self (sz := s.heap.size)
  generalize hAe : va_A (oX8 T q Z g) s.heap.size = A at hD hE0 ⊢
  have hE : gE A s s.heap := hE0
  have hA : ∀ q : Nat, s.heap.size ≤ q → A q := fun q h => by rw [← hAe]; exact Or.inr h
  have hS : va_S A s.heap s.heap [] := va_S.rf
  refine w_entry ha (Nat.le_of_ble_eq_true rfl) (fun ls hl => ?_)
  refine w_q (fun Q0 hQ => ?_)
  have lk28 := hts (.fieldLink RX8 28 "WhistleTunesModel" "thrown" "I") (by decide +kernel)
  have hinX8 : ∀ w ∈ wsX80, w ∈ wsX8_ifWhistled := by decide +kernel
  have hl : lv_has ls 4 [(0, .ref (q 0)), (1, .int (nI r)), (2, .int (nI mm)), (3, .int z)] := hl
  have hP : va_P G vwCl [(q 0, .inr (8, [.int (Z 0 0), .ref (q 2), .ref (q 3), .int (Z 0 3), .ref (q 5), .int (Z 0 5), .ref (q 7), .int (Z 0 7), .int (Z 0 8), .int (Z 0 9), .int (Z 0 10), .int (Z 0 11), .ref (q 13), .int (Z 0 13), .ref (q 15), .long g])), (q 2, .inl (T 0, 267, .inl (Z 2))), (q 3, .inl (T 0, 1602, .inl (Z 3))), (q 5, .inl (T 0, 267, .inl (Z 5))), (q 7, .inl (T 0, 60, .inl (Z 7))), (q 13, .inl (T 0, 8, .inl (Z 13))), (q 15, .inl (T 0, 3, .inl (Z 15)))] s.heap := hP
  have hD : va_D A [(q 0, .inr (8, [.int (Z 0 0), .ref (q 2), .ref (q 3), .int (Z 0 3), .ref (q 5), .int (Z 0 5), .ref (q 7), .int (Z 0 7), .int (Z 0 8), .int (Z 0 9), .int (Z 0 10), .int (Z 0 11), .ref (q 13), .int (Z 0 13), .ref (q 15), .long g])), (q 2, .inl (T 0, 267, .inl (Z 2))), (q 3, .inl (T 0, 1602, .inl (Z 3))), (q 5, .inl (T 0, 267, .inl (Z 5))), (q 7, .inl (T 0, 60, .inl (Z 7))), (q 13, .inl (T 0, 8, .inl (Z 13))), (q 15, .inl (T 0, 3, .inl (Z 15)))] := hD
  skip
  refine w_h (fun H locs hHe hLe => ?_)
  have hP : va_P G vwCl [(q 0, .inr (8, [.int (Z 0 0), .ref (q 2), .ref (q 3), .int (Z 0 3), .ref (q 5), .int (Z 0 5), .ref (q 7), .int (Z 0 7), .int (Z 0 8), .int (Z 0 9), .int (Z 0 10), .int (Z 0 11), .ref (q 13), .int (Z 0 13), .ref (q 15), .long g])), (q 2, .inl (T 0, 267, .inl (Z 2))), (q 3, .inl (T 0, 1602, .inl (Z 3))), (q 5, .inl (T 0, 267, .inl (Z 5))), (q 7, .inl (T 0, 60, .inl (Z 7))), (q 13, .inl (T 0, 8, .inl (Z 13))), (q 15, .inl (T 0, 3, .inl (Z 15)))] H := by rw [hHe]; exact hP
  have hS : va_S A s.heap H locs := by rw [hHe, hLe]; exact hS
  refine lv_aload_n hx hb dX8_ifWhistled_0 rfl (lv_at hl 0 rfl) ?_
  refine n_iconst hx hb 0 dX8_ifWhistled_1 (by decide) ?_
  refine va_put (D := G) (ci := 8) (v := .int (nI 0)) (ty := .int) (C := RX8) (T := TX8) (N := 16) hx hb hts hinX8 tyX8 tyX8_ok nmX8 hown hK hP hD hS 0 rfl rfl 0 (by decide) lk28 (fun _ h9 => h9) rfl (by decide +kernel) rfl rfl (Nat.le_of_ble_eq_true rfl) dX8_ifWhistled_2 (fun H locs hP hD hS => ?_)
  have hP : va_P G vwCl [(q 0, .inr (8, [.int (nI 0), .ref (q 2), .ref (q 3), .int (Z 0 3), .ref (q 5), .int (Z 0 5), .ref (q 7), .int (Z 0 7), .int (Z 0 8), .int (Z 0 9), .int (Z 0 10), .int (Z 0 11), .ref (q 13), .int (Z 0 13), .ref (q 15), .long g])), (q 2, .inl (T 0, 267, .inl (Z 2))), (q 3, .inl (T 0, 1602, .inl (Z 3))), (q 5, .inl (T 0, 267, .inl (Z 5))), (q 7, .inl (T 0, 60, .inl (Z 7))), (q 13, .inl (T 0, 8, .inl (Z 13))), (q 15, .inl (T 0, 3, .inl (Z 15)))] H := hP
  have hD : va_D A [(q 0, .inr (8, [.int (nI 0), .ref (q 2), .ref (q 3), .int (Z 0 3), .ref (q 5), .int (Z 0 5), .ref (q 7), .int (Z 0 7), .int (Z 0 8), .int (Z 0 9), .int (Z 0 10), .int (Z 0 11), .ref (q 13), .int (Z 0 13), .ref (q 15), .long g])), (q 2, .inl (T 0, 267, .inl (Z 2))), (q 3, .inl (T 0, 1602, .inl (Z 3))), (q 5, .inl (T 0, 267, .inl (Z 5))), (q 7, .inl (T 0, 60, .inl (Z 7))), (q 13, .inl (T 0, 8, .inl (Z 13))), (q 15, .inl (T 0, 3, .inl (Z 15)))] := hD
  refine lv_iload_n hx hb dX8_ifWhistled_5 rfl (lv_at hl 1 rfl) ?_
  refine k_roS (As := [.int (nI r)]) (rest := []) (wc := []) (d := 1) (v := bI (pWi (nI r) (nI 0) (nI 5))) cx (c_X8_isRoom l G T A (nI r) ) (va_cwS 1 hts gX8_ifWhistled_X8_isRoom rfl rfl rfl (by decide +kernel) ⟨Nat.le_of_ble_eq_true rfl, Nat.le_of_ble_eq_true rfl⟩) (hP.sub (ws' := []) [] rfl) hK (hE.kept hS.2.1) rfl hl.1 rfl (Nat.le_of_ble_eq_true rfl) dX8_ifWhistled_6 ⟨Nat.le_of_ble_eq_true rfl, Nat.le_of_ble_eq_true rfl⟩ ?_
  refine b_if_eq (b := pWi (nI r) (nI 0) (nI 5)) (tgt := 19) hx hb dX8_ifWhistled_9 (by decide) (fun c_1 => by exfalso; rw [pWi_n (by omega) (by omega) (by decide)] at c_1; cases c_1) (fun c_2 => ?_)
  refine lv_iload_n hx hb dX8_ifWhistled_12 rfl (lv_at hl 2 rfl) ?_
  refine k_roS (As := [.int (nI mm)]) (rest := []) (wc := []) (d := 1) (v := bI (pWi (nI mm) (nI 0) (nI 19))) cx (c_X8_isMessage l G T A (nI mm) ) (va_cwS 1 hts gX8_ifWhistled_X8_isMessage rfl rfl rfl (by decide +kernel) ⟨Nat.le_of_ble_eq_true rfl, Nat.le_of_ble_eq_true rfl⟩) (hP.sub (ws' := []) [] rfl) hK (hE.kept hS.2.1) rfl hl.1 rfl (Nat.le_of_ble_eq_true rfl) dX8_ifWhistled_13 ⟨Nat.le_of_ble_eq_true rfl, Nat.le_of_ble_eq_true rfl⟩ ?_
  refine b_if_ne (b := pWi (nI mm) (nI 0) (nI 19)) (tgt := 25) hx hb dX8_ifWhistled_16 (by decide) (fun c_3 => ?_) (fun c_4 => by exfalso; rw [pWi_n (by omega) (by omega) (by decide)] at c_4; cases c_4)
  refine lv_iload_n hx hb dX8_ifWhistled_25 rfl (lv_at hl 3 rfl) ?_
  refine n_iconst hx hb 0 dX8_ifWhistled_26 (by decide) ?_
  refine n_iconst hx hb 3 dX8_ifWhistled_27 (by decide) ?_
  refine k_roS (As := [.int z, .int (nI 0), .int (nI 3)]) (rest := []) (wc := []) (d := 0) (v := bI (pWi z (nI 0) (nI 3))) cx (c_X8_within l G T A z (nI 0) (nI 3) ) (va_cwS 3 hts gX8_ifWhistled_X8_within rfl rfl rfl (by decide +kernel) ⟨Nat.le_of_ble_eq_true rfl, Nat.le_of_ble_eq_true rfl⟩) (hP.sub (ws' := []) [] rfl) hK (hE.kept hS.2.1) rfl hl.1 rfl (Nat.le_of_ble_eq_true rfl) dX8_ifWhistled_28 ⟨Nat.le_of_ble_eq_true rfl, Nat.le_of_ble_eq_true rfl⟩ ?_
  refine b_if_eq (b := pWi z (nI 0) (nI 3)) (tgt := 44) hx hb dX8_ifWhistled_31 (by decide) (fun c_5 => ?_) (fun c_6 => by exfalso; rw [hno] at c_6; cases c_6)
  refine lv_aload_n hx hb dX8_ifWhistled_44 rfl (lv_at hl 0 rfl) ?_
  refine n_iconst hx hb 2 dX8_ifWhistled_45 (by decide) ?_
  refine k_rwV (As := [.int (nI 2)]) (rest := []) (wc := oX8 T q (sc Z 0 (nI 0)) g) (wr := []) (w1 := oX8 T q (sc (sc Z 0 (nI 0)) 0 (nI 2)) g) (d := 0) (mc := 0) (ms := 0) (v := nI 0) (isC := [0, 1, 2, 3, 4, 5, 6]) (isR := []) cx (c_X8_fails l G T H.size q (sc Z 0 (nI 0)) g (nI 2) ) (cwV 1 hts gX8_ifWhistled_X8_fails rfl rfl rfl (by decide +kernel) ⟨Nat.le_of_ble_eq_true rfl, Nat.le_of_ble_eq_true rfl⟩) ⟨hP, hD, hS, hA, hE, hK, rfl, rfl, rfl, rfl, by decide⟩ (va_recv hK hP (ci := 8) (q0 := 0) rfl rfl) rfl hl.1 rfl (Nat.le_of_ble_eq_true rfl) dX8_ifWhistled_46 ⟨Nat.le_of_ble_eq_true rfl, Nat.le_of_ble_eq_true rfl⟩ (fun H locs hP hD hS hz => ?_)
  have hP : va_P G vwCl [(q 0, .inr (8, [.int (nI 2), .ref (q 2), .ref (q 3), .int (Z 0 3), .ref (q 5), .int (Z 0 5), .ref (q 7), .int (Z 0 7), .int (Z 0 8), .int (Z 0 9), .int (Z 0 10), .int (Z 0 11), .ref (q 13), .int (Z 0 13), .ref (q 15), .long g])), (q 2, .inl (T 0, 267, .inl (Z 2))), (q 3, .inl (T 0, 1602, .inl (Z 3))), (q 5, .inl (T 0, 267, .inl (Z 5))), (q 7, .inl (T 0, 60, .inl (Z 7))), (q 13, .inl (T 0, 8, .inl (Z 13))), (q 15, .inl (T 0, 3, .inl (Z 15)))] H := hP
  have hD : va_D A [(q 0, .inr (8, [.int (nI 2), .ref (q 2), .ref (q 3), .int (Z 0 3), .ref (q 5), .int (Z 0 5), .ref (q 7), .int (Z 0 7), .int (Z 0 8), .int (Z 0 9), .int (Z 0 10), .int (Z 0 11), .ref (q 13), .int (Z 0 13), .ref (q 15), .long g])), (q 2, .inl (T 0, 267, .inl (Z 2))), (q 3, .inl (T 0, 1602, .inl (Z 3))), (q 5, .inl (T 0, 267, .inl (Z 5))), (q 7, .inl (T 0, 60, .inl (Z 7))), (q 13, .inl (T 0, 8, .inl (Z 13))), (q 15, .inl (T 0, 3, .inl (Z 15)))] := hD
  subst hQ
  have e_7 : (nI 2) = nI 2 := (by first | rfl | simp [bI, c_2, c_3, c_5])
  rw [e_7] at hP hD
  have hP9 : va_P G vwCl (oX8 T q (sc Z 0 (nI 2)) g) H := hP
  have hD9 : va_D A (oX8 T q (sc Z 0 (nI 2)) g) := hD
  exact e_rwi hx hb hr hlocks hS (by first | rfl | simp [bI, c_2, c_3, c_5]) hP9 hD9 dX8_ifWhistled_49
set_option maxHeartbeats 4000000 in
set_option maxRecDepth 100000 in
theorem c_X8_whistle_2 (l : Launch) (G : va_G) (T : Nat → ClassId) (sz : Nat) (q : Nat → Nat) (Z : Nat → Nat → Int32) (g : Int64) (r : Nat) (mm : Nat) (hr6 : r < 6) (hm20 : mm < 20) (hno : ¬ mWy (sc Z 0 (nI 0)) r mm = 0) : RWi l yX8_whistle wsX8_whistle 7 0 0 G T sz (oX8 T q Z g) [.ref (q 0), .int (nI r), .int (nI mm)] (nI 0) (oX8 T q (sc Z 0 (nI 2)) g) := by
  refine Met.ofW (cc := cX8_whistle) (maxL := 3) (ret := (some .int)) (by decide) rfl ?_
  intro p e s m args below meth c s₁ B hml hv
  obtain ⟨ha, hsz, hP, hK, hD0, hE0⟩ := hv
  have hx := B.exec
  have hb := B.bytes
  have hr := B.returns
  have hlocks := B.notSynchronized
  have hts := atoms_spec (ws := wsX8_whistle) B.pre
  have hown : s.vm.findClass RX8 = some m.cls := findClass_of_methodNamed B.named
  have cx : CallFix p m c cX8_whistle 3 s args wsX8_whistle RX8 := ⟨hx, hb, hml, hown, hts⟩
  subst hsz
  have hD := hD0.self (sz := s.heap.size)
  generalize hAe : va_A (oX8 T q Z g) s.heap.size = A at hD hE0 ⊢
  have hE : gE A s s.heap := hE0
  have hA : ∀ q : Nat, s.heap.size ≤ q → A q := fun q h => by rw [← hAe]; exact Or.inr h
  have hS : va_S A s.heap s.heap [] := va_S.rf
  refine w_entry ha (Nat.le_of_ble_eq_true rfl) (fun ls hl => ?_)
  refine w_q (fun Q0 hQ => ?_)
  have lk28 := hts (.fieldLink RX8 28 "WhistleTunesModel" "thrown" "I") (by decide +kernel)
  have hinX8 : ∀ w ∈ wsX80, w ∈ wsX8_whistle := by decide +kernel
  have hl : lv_has ls 3 [(0, .ref (q 0)), (1, .int (nI r)), (2, .int (nI mm))] := hl
  have hP : va_P G vwCl [(q 0, .inr (8, [.int (Z 0 0), .ref (q 2), .ref (q 3), .int (Z 0 3), .ref (q 5), .int (Z 0 5), .ref (q 7), .int (Z 0 7), .int (Z 0 8), .int (Z 0 9), .int (Z 0 10), .int (Z 0 11), .ref (q 13), .int (Z 0 13), .ref (q 15), .long g])), (q 2, .inl (T 0, 267, .inl (Z 2))), (q 3, .inl (T 0, 1602, .inl (Z 3))), (q 5, .inl (T 0, 267, .inl (Z 5))), (q 7, .inl (T 0, 60, .inl (Z 7))), (q 13, .inl (T 0, 8, .inl (Z 13))), (q 15, .inl (T 0, 3, .inl (Z 15)))] s.heap := hP
  have hD : va_D A [(q 0, .inr (8, [.int (Z 0 0), .ref (q 2), .ref (q 3), .int (Z 0 3), .ref (q 5), .int (Z 0 5), .ref (q 7), .int (Z 0 7), .int (Z 0 8), .int (Z 0 9), .int (Z 0 10), .int (Z 0 11), .ref (q 13), .int (Z 0 13), .ref (q 15), .long g])), (q 2, .inl (T 0, 267, .inl (Z 2))), (q 3, .inl (T 0, 1602, .inl (Z 3))), (q 5, .inl (T 0, 267, .inl (Z 5))), (q 7, .inl (T 0, 60, .inl (Z 7))), (q 13, .inl (T 0, 8, .inl (Z 13))), (q 15, .inl (T 0, 3, .inl (Z 15)))] := hD
  skip
  refine w_h (fun H locs hHe hLe => ?_)
  have hP : va_P G vwCl [(q 0, .inr (8, [.int (Z 0 0), .ref (q 2), .ref (q 3), .int (Z 0 3), .ref (q 5), .int (Z 0 5), .ref (q 7), .int (Z 0 7), .int (Z 0 8), .int (Z 0 9), .int (Z 0 10), .int (Z 0 11), .ref (q 13), .int (Z 0 13), .ref (q 15), .long g])), (q 2, .inl (T 0, 267, .inl (Z 2))), (q 3, .inl (T 0, 1602, .inl (Z 3))), (q 5, .inl (T 0, 267, .inl (Z 5))), (q 7, .inl (T 0, 60, .inl (Z 7))), (q 13, .inl (T 0, 8, .inl (Z 13))), (q 15, .inl (T 0, 3, .inl (Z 15)))] H := by rw [hHe]; exact hP
  have hS : va_S A s.heap H locs := by rw [hHe, hLe]; exact hS
  refine lv_aload_n hx hb dX8_whistle_0 rfl (lv_at hl 0 rfl) ?_
  refine n_iconst hx hb 0 dX8_whistle_1 (by decide) ?_
  refine va_put (D := G) (ci := 8) (v := .int (nI 0)) (ty := .int) (C := RX8) (T := TX8) (N := 16) hx hb hts hinX8 tyX8 tyX8_ok nmX8 hown hK hP hD hS 0 rfl rfl 0 (by decide) lk28 (fun _ h9 => h9) rfl (by decide +kernel) rfl rfl (Nat.le_of_ble_eq_true rfl) dX8_whistle_2 (fun H locs hP hD hS => ?_)
  have hP : va_P G vwCl [(q 0, .inr (8, [.int (nI 0), .ref (q 2), .ref (q 3), .int (Z 0 3), .ref (q 5), .int (Z 0 5), .ref (q 7), .int (Z 0 7), .int (Z 0 8), .int (Z 0 9), .int (Z 0 10), .int (Z 0 11), .ref (q 13), .int (Z 0 13), .ref (q 15), .long g])), (q 2, .inl (T 0, 267, .inl (Z 2))), (q 3, .inl (T 0, 1602, .inl (Z 3))), (q 5, .inl (T 0, 267, .inl (Z 5))), (q 7, .inl (T 0, 60, .inl (Z 7))), (q 13, .inl (T 0, 8, .inl (Z 13))), (q 15, .inl (T 0, 3, .inl (Z 15)))] H := hP
  have hD : va_D A [(q 0, .inr (8, [.int (nI 0), .ref (q 2), .ref (q 3), .int (Z 0 3), .ref (q 5), .int (Z 0 5), .ref (q 7), .int (Z 0 7), .int (Z 0 8), .int (Z 0 9), .int (Z 0 10), .int (Z 0 11), .ref (q 13), .int (Z 0 13), .ref (q 15), .long g])), (q 2, .inl (T 0, 267, .inl (Z 2))), (q 3, .inl (T 0, 1602, .inl (Z 3))), (q 5, .inl (T 0, 267, .inl (Z 5))), (q 7, .inl (T 0, 60, .inl (Z 7))), (q 13, .inl (T 0, 8, .inl (Z 13))), (q 15, .inl (T 0, 3, .inl (Z 15)))] := hD
  refine lv_iload_n hx hb dX8_whistle_5 rfl (lv_at hl 1 rfl) ?_
  refine k_roS (As := [.int (nI r)]) (rest := []) (wc := []) (d := 1) (v := bI (pWi (nI r) (nI 0) (nI 5))) cx (c_X8_isRoom l G T A (nI r) ) (va_cwS 1 hts gX8_whistle_X8_isRoom rfl rfl rfl (by decide +kernel) ⟨Nat.le_of_ble_eq_true rfl, Nat.le_of_ble_eq_true rfl⟩) (hP.sub (ws' := []) [] rfl) hK (hE.kept hS.2.1) rfl hl.1 rfl (Nat.le_of_ble_eq_true rfl) dX8_whistle_6 ⟨Nat.le_of_ble_eq_true rfl, Nat.le_of_ble_eq_true rfl⟩ ?_
  refine b_if_eq (b := pWi (nI r) (nI 0) (nI 5)) (tgt := 19) hx hb dX8_whistle_9 (by decide) (fun c_1 => by exfalso; rw [pWi_n (by omega) (by omega) (by decide)] at c_1; cases c_1) (fun c_2 => ?_)
  refine lv_iload_n hx hb dX8_whistle_12 rfl (lv_at hl 2 rfl) ?_
  refine k_roS (As := [.int (nI mm)]) (rest := []) (wc := []) (d := 1) (v := bI (pWi (nI mm) (nI 0) (nI 19))) cx (c_X8_isMessage l G T A (nI mm) ) (va_cwS 1 hts gX8_whistle_X8_isMessage rfl rfl rfl (by decide +kernel) ⟨Nat.le_of_ble_eq_true rfl, Nat.le_of_ble_eq_true rfl⟩) (hP.sub (ws' := []) [] rfl) hK (hE.kept hS.2.1) rfl hl.1 rfl (Nat.le_of_ble_eq_true rfl) dX8_whistle_13 ⟨Nat.le_of_ble_eq_true rfl, Nat.le_of_ble_eq_true rfl⟩ ?_
  refine b_if_ne (b := pWi (nI mm) (nI 0) (nI 19)) (tgt := 25) hx hb dX8_whistle_16 (by decide) (fun c_3 => ?_) (fun c_4 => by exfalso; rw [pWi_n (by omega) (by omega) (by decide)] at c_4; cases c_4)
  refine lv_aload_n hx hb dX8_whistle_25 rfl (lv_at hl 0 rfl) ?_
  refine lv_iload_n hx hb dX8_whistle_26 rfl (lv_at hl 1 rfl) ?_
  refine lv_iload_n hx hb dX8_whistle_27 rfl (lv_at hl 2 rfl) ?_
  refine k_roV (As := [.int (nI r), .int (nI mm)]) (rest := []) (wc := oX8 T q (sc Z 0 (nI 0)) g) (d := 2) (v := mWy (sc Z 0 (nI 0)) r mm) cx (c_X8_whyNotWhistled l G T A q (sc Z 0 (nI 0)) g r mm (by omega) (by omega)) (cwV 2 hts gX8_whistle_X8_whyNotWhistled rfl rfl rfl (by decide +kernel) ⟨Nat.le_of_ble_eq_true rfl, Nat.le_of_ble_eq_true rfl⟩) hP hK (hE.kept hS.2.1) (va_recv hK hP (ci := 8) (q0 := 0) rfl rfl) rfl hl.1 rfl (Nat.le_of_ble_eq_true rfl) dX8_whistle_28 ⟨Nat.le_of_ble_eq_true rfl, Nat.le_of_ble_eq_true rfl⟩ ?_
  refine lv_if_eq (tgt := 40) hx hb dX8_whistle_31 (by decide) (fun c_5 => by exfalso; exact hno c_5) (fun c_6 => ?_)
  refine lv_aload_n hx hb dX8_whistle_34 rfl (lv_at hl 0 rfl) ?_
  refine n_iconst hx hb 2 dX8_whistle_35 (by decide) ?_
  refine k_rwV (As := [.int (nI 2)]) (rest := []) (wc := oX8 T q (sc Z 0 (nI 0)) g) (wr := []) (w1 := oX8 T q (sc (sc Z 0 (nI 0)) 0 (nI 2)) g) (d := 0) (mc := 0) (ms := 0) (v := nI 0) (isC := [0, 1, 2, 3, 4, 5, 6]) (isR := []) cx (c_X8_fails l G T H.size q (sc Z 0 (nI 0)) g (nI 2) ) (cwV 1 hts gX8_whistle_X8_fails rfl rfl rfl (by decide +kernel) ⟨Nat.le_of_ble_eq_true rfl, Nat.le_of_ble_eq_true rfl⟩) ⟨hP, hD, hS, hA, hE, hK, rfl, rfl, rfl, rfl, by decide⟩ (va_recv hK hP (ci := 8) (q0 := 0) rfl rfl) rfl hl.1 rfl (Nat.le_of_ble_eq_true rfl) dX8_whistle_36 ⟨Nat.le_of_ble_eq_true rfl, Nat.le_of_ble_eq_true rfl⟩ (fun H locs hP hD hS hz => ?_)
  have hP : va_P G vwCl [(q 0, .inr (8, [.int (nI 2), .ref (q 2), .ref (q 3), .int (Z 0 3), .ref (q 5), .int (Z 0 5), .ref (q 7), .int (Z 0 7), .int (Z 0 8), .int (Z 0 9), .int (Z 0 10), .int (Z 0 11), .ref (q 13), .int (Z 0 13), .ref (q 15), .long g])), (q 2, .inl (T 0, 267, .inl (Z 2))), (q 3, .inl (T 0, 1602, .inl (Z 3))), (q 5, .inl (T 0, 267, .inl (Z 5))), (q 7, .inl (T 0, 60, .inl (Z 7))), (q 13, .inl (T 0, 8, .inl (Z 13))), (q 15, .inl (T 0, 3, .inl (Z 15)))] H := hP
  have hD : va_D A [(q 0, .inr (8, [.int (nI 2), .ref (q 2), .ref (q 3), .int (Z 0 3), .ref (q 5), .int (Z 0 5), .ref (q 7), .int (Z 0 7), .int (Z 0 8), .int (Z 0 9), .int (Z 0 10), .int (Z 0 11), .ref (q 13), .int (Z 0 13), .ref (q 15), .long g])), (q 2, .inl (T 0, 267, .inl (Z 2))), (q 3, .inl (T 0, 1602, .inl (Z 3))), (q 5, .inl (T 0, 267, .inl (Z 5))), (q 7, .inl (T 0, 60, .inl (Z 7))), (q 13, .inl (T 0, 8, .inl (Z 13))), (q 15, .inl (T 0, 3, .inl (Z 15)))] := hD
  subst hQ
  have e_7 : (nI 2) = nI 2 := (by first | rfl | simp [bI, c_2, c_3, c_6])
  rw [e_7] at hP hD
  have hP9 : va_P G vwCl (oX8 T q (sc Z 0 (nI 2)) g) H := hP
  have hD9 : va_D A (oX8 T q (sc Z 0 (nI 2)) g) := hD
  exact e_rwi hx hb hr hlocks hS (by first | rfl | simp [bI, c_2, c_3, c_6]) hP9 hD9 dX8_whistle_39
set_option maxHeartbeats 4000000 in
set_option maxRecDepth 100000 in
theorem c_X8_append_2 (l : Launch) (G : va_G) (T : Nat → ClassId) (sz : Nat) (q : Nat → Nat) (Z : Nat → Nat → Int32) (g : Int64) (x : Nat) (hx1 : 33 ≤ x) (hx2 : x ≤ 126) (hle : Z 0 7 = nI 60) : RWi l yX8_append wsX8_append 6 0 0 G T sz (oX8 T q Z g) [.ref (q 0), .int (nI x)] (nI 0) (oX8 T q (sc Z 0 (nI 2)) g) := by
  refine Met.ofW (cc := cX8_append) (maxL := 2) (ret := (some .int)) (by decide) rfl ?_
  intro p e s m args below meth c s₁ B hml hv
  obtain ⟨ha, hsz, hP, hK, hD0, hE0⟩ := hv
  have hx := B.exec
  have hb := B.bytes
  have hr := B.returns
  have hlocks := B.notSynchronized
  have hts := atoms_spec (ws := wsX8_append) B.pre
  have hown : s.vm.findClass RX8 = some m.cls := findClass_of_methodNamed B.named
  have cx : CallFix p m c cX8_append 2 s args wsX8_append RX8 := ⟨hx, hb, hml, hown, hts⟩
  subst hsz
  have hD := hD0.self (sz := s.heap.size)
  generalize hAe : va_A (oX8 T q Z g) s.heap.size = A at hD hE0 ⊢
  have hE : gE A s s.heap := hE0
  have hA : ∀ q : Nat, s.heap.size ≤ q → A q := fun q h => by rw [← hAe]; exact Or.inr h
  have hS : va_S A s.heap s.heap [] := va_S.rf
  refine w_entry ha (Nat.le_of_ble_eq_true rfl) (fun ls hl => ?_)
  refine w_q (fun Q0 hQ => ?_)
  have lk28 := hts (.fieldLink RX8 28 "WhistleTunesModel" "thrown" "I") (by decide +kernel)
  have hinX8 : ∀ w ∈ wsX80, w ∈ wsX8_append := by decide +kernel
  have lk53 := hts (.fieldLink RX8 53 "WhistleTunesModel" "length" "I") (by decide +kernel)
  have hl : lv_has ls 2 [(0, .ref (q 0)), (1, .int (nI x))] := hl
  have hP : va_P G vwCl [(q 0, .inr (8, [.int (Z 0 0), .ref (q 2), .ref (q 3), .int (Z 0 3), .ref (q 5), .int (Z 0 5), .ref (q 7), .int (Z 0 7), .int (Z 0 8), .int (Z 0 9), .int (Z 0 10), .int (Z 0 11), .ref (q 13), .int (Z 0 13), .ref (q 15), .long g])), (q 2, .inl (T 0, 267, .inl (Z 2))), (q 3, .inl (T 0, 1602, .inl (Z 3))), (q 5, .inl (T 0, 267, .inl (Z 5))), (q 7, .inl (T 0, 60, .inl (Z 7))), (q 13, .inl (T 0, 8, .inl (Z 13))), (q 15, .inl (T 0, 3, .inl (Z 15)))] s.heap := hP
  have hD : va_D A [(q 0, .inr (8, [.int (Z 0 0), .ref (q 2), .ref (q 3), .int (Z 0 3), .ref (q 5), .int (Z 0 5), .ref (q 7), .int (Z 0 7), .int (Z 0 8), .int (Z 0 9), .int (Z 0 10), .int (Z 0 11), .ref (q 13), .int (Z 0 13), .ref (q 15), .long g])), (q 2, .inl (T 0, 267, .inl (Z 2))), (q 3, .inl (T 0, 1602, .inl (Z 3))), (q 5, .inl (T 0, 267, .inl (Z 5))), (q 7, .inl (T 0, 60, .inl (Z 7))), (q 13, .inl (T 0, 8, .inl (Z 13))), (q 15, .inl (T 0, 3, .inl (Z 15)))] := hD
  skip
  refine w_h (fun H locs hHe hLe => ?_)
  have hP : va_P G vwCl [(q 0, .inr (8, [.int (Z 0 0), .ref (q 2), .ref (q 3), .int (Z 0 3), .ref (q 5), .int (Z 0 5), .ref (q 7), .int (Z 0 7), .int (Z 0 8), .int (Z 0 9), .int (Z 0 10), .int (Z 0 11), .ref (q 13), .int (Z 0 13), .ref (q 15), .long g])), (q 2, .inl (T 0, 267, .inl (Z 2))), (q 3, .inl (T 0, 1602, .inl (Z 3))), (q 5, .inl (T 0, 267, .inl (Z 5))), (q 7, .inl (T 0, 60, .inl (Z 7))), (q 13, .inl (T 0, 8, .inl (Z 13))), (q 15, .inl (T 0, 3, .inl (Z 15)))] H := by rw [hHe]; exact hP
  have hS : va_S A s.heap H locs := by rw [hHe, hLe]; exact hS
  refine lv_aload_n hx hb dX8_append_0 rfl (lv_at hl 0 rfl) ?_
  refine n_iconst hx hb 0 dX8_append_1 (by decide) ?_
  refine va_put (D := G) (ci := 8) (v := .int (nI 0)) (ty := .int) (C := RX8) (T := TX8) (N := 16) hx hb hts hinX8 tyX8 tyX8_ok nmX8 hown hK hP hD hS 0 rfl rfl 0 (by decide) lk28 (fun _ h9 => h9) rfl (by decide +kernel) rfl rfl (Nat.le_of_ble_eq_true rfl) dX8_append_2 (fun H locs hP hD hS => ?_)
  have hP : va_P G vwCl [(q 0, .inr (8, [.int (nI 0), .ref (q 2), .ref (q 3), .int (Z 0 3), .ref (q 5), .int (Z 0 5), .ref (q 7), .int (Z 0 7), .int (Z 0 8), .int (Z 0 9), .int (Z 0 10), .int (Z 0 11), .ref (q 13), .int (Z 0 13), .ref (q 15), .long g])), (q 2, .inl (T 0, 267, .inl (Z 2))), (q 3, .inl (T 0, 1602, .inl (Z 3))), (q 5, .inl (T 0, 267, .inl (Z 5))), (q 7, .inl (T 0, 60, .inl (Z 7))), (q 13, .inl (T 0, 8, .inl (Z 13))), (q 15, .inl (T 0, 3, .inl (Z 15)))] H := hP
  have hD : va_D A [(q 0, .inr (8, [.int (nI 0), .ref (q 2), .ref (q 3), .int (Z 0 3), .ref (q 5), .int (Z 0 5), .ref (q 7), .int (Z 0 7), .int (Z 0 8), .int (Z 0 9), .int (Z 0 10), .int (Z 0 11), .ref (q 13), .int (Z 0 13), .ref (q 15), .long g])), (q 2, .inl (T 0, 267, .inl (Z 2))), (q 3, .inl (T 0, 1602, .inl (Z 3))), (q 5, .inl (T 0, 267, .inl (Z 5))), (q 7, .inl (T 0, 60, .inl (Z 7))), (q 13, .inl (T 0, 8, .inl (Z 13))), (q 15, .inl (T 0, 3, .inl (Z 15)))] := hD
  refine lv_iload_n hx hb dX8_append_5 rfl (lv_at hl 1 rfl) ?_
  refine lv_bipush (v := nI 33) hx hb dX8_append_6 (by decide) ?_
  refine lv_bipush (v := nI 126) hx hb dX8_append_8 (by decide) ?_
  refine k_roS (As := [.int (nI x), .int (nI 33), .int (nI 126)]) (rest := []) (wc := []) (d := 0) (v := bI (pWi (nI x) (nI 33) (nI 126))) cx (c_X8_within l G T A (nI x) (nI 33) (nI 126) ) (va_cwS 3 hts gX8_append_X8_within rfl rfl rfl (by decide +kernel) ⟨Nat.le_of_ble_eq_true rfl, Nat.le_of_ble_eq_true rfl⟩) (hP.sub (ws' := []) [] rfl) hK (hE.kept hS.2.1) rfl hl.1 rfl (Nat.le_of_ble_eq_true rfl) dX8_append_10 ⟨Nat.le_of_ble_eq_true rfl, Nat.le_of_ble_eq_true rfl⟩ ?_
  refine b_if_ne (b := pWi (nI x) (nI 33) (nI 126)) (tgt := 22) hx hb dX8_append_13 (by decide) (fun c_1 => ?_) (fun c_2 => by exfalso; rw [pWi_n (by omega) (by omega) (by decide)] at c_2; cases c_2)
  refine lv_aload_n hx hb dX8_append_22 rfl (lv_at hl 0 rfl) ?_
  refine va_get (D := G) (ci := 8) (v := .int (Z 0 7)) (C := RX8) (T := TX8) (N := 16) hx hb hts hinX8 hown hK hP 0 rfl rfl 7 (by decide) lk53 (fun _ h9 => h9) rfl dX8_append_23 ?_
  refine n_top (y := nI 60) hle ?_
  refine lv_bipush (v := nI 60) hx hb dX8_append_26 (by decide) ?_
  refine n_icmp_ne (a := 60) (b := 60) (tgt := 37) hx hb (by decide) (by decide) dX8_append_28 (by decide) (fun h9 => absurd h9 (by decide)) (fun c_3 => ?_)
  refine lv_aload_n hx hb dX8_append_31 rfl (lv_at hl 0 rfl) ?_
  refine n_iconst hx hb 2 dX8_append_32 (by decide) ?_
  refine k_rwV (As := [.int (nI 2)]) (rest := []) (wc := oX8 T q (sc Z 0 (nI 0)) g) (wr := []) (w1 := oX8 T q (sc (sc Z 0 (nI 0)) 0 (nI 2)) g) (d := 0) (mc := 0) (ms := 0) (v := nI 0) (isC := [0, 1, 2, 3, 4, 5, 6]) (isR := []) cx (c_X8_fails l G T H.size q (sc Z 0 (nI 0)) g (nI 2) ) (cwV 1 hts gX8_append_X8_fails rfl rfl rfl (by decide +kernel) ⟨Nat.le_of_ble_eq_true rfl, Nat.le_of_ble_eq_true rfl⟩) ⟨hP, hD, hS, hA, hE, hK, rfl, rfl, rfl, rfl, by decide⟩ (va_recv hK hP (ci := 8) (q0 := 0) rfl rfl) rfl hl.1 rfl (Nat.le_of_ble_eq_true rfl) dX8_append_33 ⟨Nat.le_of_ble_eq_true rfl, Nat.le_of_ble_eq_true rfl⟩ (fun H locs hP hD hS hz => ?_)
  have hP : va_P G vwCl [(q 0, .inr (8, [.int (nI 2), .ref (q 2), .ref (q 3), .int (Z 0 3), .ref (q 5), .int (Z 0 5), .ref (q 7), .int (Z 0 7), .int (Z 0 8), .int (Z 0 9), .int (Z 0 10), .int (Z 0 11), .ref (q 13), .int (Z 0 13), .ref (q 15), .long g])), (q 2, .inl (T 0, 267, .inl (Z 2))), (q 3, .inl (T 0, 1602, .inl (Z 3))), (q 5, .inl (T 0, 267, .inl (Z 5))), (q 7, .inl (T 0, 60, .inl (Z 7))), (q 13, .inl (T 0, 8, .inl (Z 13))), (q 15, .inl (T 0, 3, .inl (Z 15)))] H := hP
  have hD : va_D A [(q 0, .inr (8, [.int (nI 2), .ref (q 2), .ref (q 3), .int (Z 0 3), .ref (q 5), .int (Z 0 5), .ref (q 7), .int (Z 0 7), .int (Z 0 8), .int (Z 0 9), .int (Z 0 10), .int (Z 0 11), .ref (q 13), .int (Z 0 13), .ref (q 15), .long g])), (q 2, .inl (T 0, 267, .inl (Z 2))), (q 3, .inl (T 0, 1602, .inl (Z 3))), (q 5, .inl (T 0, 267, .inl (Z 5))), (q 7, .inl (T 0, 60, .inl (Z 7))), (q 13, .inl (T 0, 8, .inl (Z 13))), (q 15, .inl (T 0, 3, .inl (Z 15)))] := hD
  subst hQ
  have e_4 : (nI 2) = nI 2 := (by first | rfl | simp [bI, c_1])
  rw [e_4] at hP hD
  have hP9 : va_P G vwCl (oX8 T q (sc Z 0 (nI 2)) g) H := hP
  have hD9 : va_D A (oX8 T q (sc Z 0 (nI 2)) g) := hD
  exact e_rwi hx hb hr hlocks hS (by first | rfl | simp [bI, c_1]) hP9 hD9 dX8_append_36
set_option maxHeartbeats 4000000 in
set_option maxRecDepth 100000 in
theorem c_X8_append (l : Launch) (G : va_G) (T : Nat → ClassId) (sz : Nat) (q : Nat → Nat) (Z : Nat → Nat → Int32) (g : Int64) (x : Nat) (L : Nat) (hx1 : 33 ≤ x) (hx2 : x ≤ 126) (hle : Z 0 7 = nI L) (hL60 : L < 60) : RWi l yX8_append wsX8_append 6 0 0 G T sz (oX8 T q Z g) [.ref (q 0), .int (nI x)] (nI (L + 1)) (oX8 T q (sa (sc (sc Z 0 (nI 0)) 7 (nI (L + 1))) 7 (upd (Z 7) L (nI x))) g) := by
  refine Met.ofW (cc := cX8_append) (maxL := 2) (ret := (some .int)) (by decide) rfl ?_
  intro p e s m args below meth c s₁ B hml hv
  obtain ⟨ha, hsz, hP, hK, hD0, hE0⟩ := hv
  have hx := B.exec
  have hb := B.bytes
  have hr := B.returns
  have hlocks := B.notSynchronized
  have hts := atoms_spec (ws := wsX8_append) B.pre
  have hown : s.vm.findClass RX8 = some m.cls := findClass_of_methodNamed B.named
  have cx : CallFix p m c cX8_append 2 s args wsX8_append RX8 := ⟨hx, hb, hml, hown, hts⟩
  subst hsz
  have hD := hD0.self (sz := s.heap.size)
  generalize hAe : va_A (oX8 T q Z g) s.heap.size = A at hD hE0 ⊢
  have hE : gE A s s.heap := hE0
  have hA : ∀ q : Nat, s.heap.size ≤ q → A q := fun q h => by rw [← hAe]; exact Or.inr h
  have hS : va_S A s.heap s.heap [] := va_S.rf
  refine w_entry ha (Nat.le_of_ble_eq_true rfl) (fun ls hl => ?_)
  refine w_q (fun Q0 hQ => ?_)
  have lk28 := hts (.fieldLink RX8 28 "WhistleTunesModel" "thrown" "I") (by decide +kernel)
  have hinX8 : ∀ w ∈ wsX80, w ∈ wsX8_append := by decide +kernel
  have lk53 := hts (.fieldLink RX8 53 "WhistleTunesModel" "length" "I") (by decide +kernel)
  have lk19 := hts (.fieldLink RX8 19 "WhistleTunesModel" "buffer" "[I") (by decide +kernel)
  have hl : lv_has ls 2 [(0, .ref (q 0)), (1, .int (nI x))] := hl
  have hP : va_P G vwCl [(q 0, .inr (8, [.int (Z 0 0), .ref (q 2), .ref (q 3), .int (Z 0 3), .ref (q 5), .int (Z 0 5), .ref (q 7), .int (Z 0 7), .int (Z 0 8), .int (Z 0 9), .int (Z 0 10), .int (Z 0 11), .ref (q 13), .int (Z 0 13), .ref (q 15), .long g])), (q 2, .inl (T 0, 267, .inl (Z 2))), (q 3, .inl (T 0, 1602, .inl (Z 3))), (q 5, .inl (T 0, 267, .inl (Z 5))), (q 7, .inl (T 0, 60, .inl (Z 7))), (q 13, .inl (T 0, 8, .inl (Z 13))), (q 15, .inl (T 0, 3, .inl (Z 15)))] s.heap := hP
  have hD : va_D A [(q 0, .inr (8, [.int (Z 0 0), .ref (q 2), .ref (q 3), .int (Z 0 3), .ref (q 5), .int (Z 0 5), .ref (q 7), .int (Z 0 7), .int (Z 0 8), .int (Z 0 9), .int (Z 0 10), .int (Z 0 11), .ref (q 13), .int (Z 0 13), .ref (q 15), .long g])), (q 2, .inl (T 0, 267, .inl (Z 2))), (q 3, .inl (T 0, 1602, .inl (Z 3))), (q 5, .inl (T 0, 267, .inl (Z 5))), (q 7, .inl (T 0, 60, .inl (Z 7))), (q 13, .inl (T 0, 8, .inl (Z 13))), (q 15, .inl (T 0, 3, .inl (Z 15)))] := hD
  skip
  refine w_h (fun H locs hHe hLe => ?_)
  have hP : va_P G vwCl [(q 0, .inr (8, [.int (Z 0 0), .ref (q 2), .ref (q 3), .int (Z 0 3), .ref (q 5), .int (Z 0 5), .ref (q 7), .int (Z 0 7), .int (Z 0 8), .int (Z 0 9), .int (Z 0 10), .int (Z 0 11), .ref (q 13), .int (Z 0 13), .ref (q 15), .long g])), (q 2, .inl (T 0, 267, .inl (Z 2))), (q 3, .inl (T 0, 1602, .inl (Z 3))), (q 5, .inl (T 0, 267, .inl (Z 5))), (q 7, .inl (T 0, 60, .inl (Z 7))), (q 13, .inl (T 0, 8, .inl (Z 13))), (q 15, .inl (T 0, 3, .inl (Z 15)))] H := by rw [hHe]; exact hP
  have hS : va_S A s.heap H locs := by rw [hHe, hLe]; exact hS
  refine lv_aload_n hx hb dX8_append_0 rfl (lv_at hl 0 rfl) ?_
  refine n_iconst hx hb 0 dX8_append_1 (by decide) ?_
  refine va_put (D := G) (ci := 8) (v := .int (nI 0)) (ty := .int) (C := RX8) (T := TX8) (N := 16) hx hb hts hinX8 tyX8 tyX8_ok nmX8 hown hK hP hD hS 0 rfl rfl 0 (by decide) lk28 (fun _ h9 => h9) rfl (by decide +kernel) rfl rfl (Nat.le_of_ble_eq_true rfl) dX8_append_2 (fun H locs hP hD hS => ?_)
  have hP : va_P G vwCl [(q 0, .inr (8, [.int (nI 0), .ref (q 2), .ref (q 3), .int (Z 0 3), .ref (q 5), .int (Z 0 5), .ref (q 7), .int (Z 0 7), .int (Z 0 8), .int (Z 0 9), .int (Z 0 10), .int (Z 0 11), .ref (q 13), .int (Z 0 13), .ref (q 15), .long g])), (q 2, .inl (T 0, 267, .inl (Z 2))), (q 3, .inl (T 0, 1602, .inl (Z 3))), (q 5, .inl (T 0, 267, .inl (Z 5))), (q 7, .inl (T 0, 60, .inl (Z 7))), (q 13, .inl (T 0, 8, .inl (Z 13))), (q 15, .inl (T 0, 3, .inl (Z 15)))] H := hP
  have hD : va_D A [(q 0, .inr (8, [.int (nI 0), .ref (q 2), .ref (q 3), .int (Z 0 3), .ref (q 5), .int (Z 0 5), .ref (q 7), .int (Z 0 7), .int (Z 0 8), .int (Z 0 9), .int (Z 0 10), .int (Z 0 11), .ref (q 13), .int (Z 0 13), .ref (q 15), .long g])), (q 2, .inl (T 0, 267, .inl (Z 2))), (q 3, .inl (T 0, 1602, .inl (Z 3))), (q 5, .inl (T 0, 267, .inl (Z 5))), (q 7, .inl (T 0, 60, .inl (Z 7))), (q 13, .inl (T 0, 8, .inl (Z 13))), (q 15, .inl (T 0, 3, .inl (Z 15)))] := hD
  refine lv_iload_n hx hb dX8_append_5 rfl (lv_at hl 1 rfl) ?_
  refine lv_bipush (v := nI 33) hx hb dX8_append_6 (by decide) ?_
  refine lv_bipush (v := nI 126) hx hb dX8_append_8 (by decide) ?_
  refine k_roS (As := [.int (nI x), .int (nI 33), .int (nI 126)]) (rest := []) (wc := []) (d := 0) (v := bI (pWi (nI x) (nI 33) (nI 126))) cx (c_X8_within l G T A (nI x) (nI 33) (nI 126) ) (va_cwS 3 hts gX8_append_X8_within rfl rfl rfl (by decide +kernel) ⟨Nat.le_of_ble_eq_true rfl, Nat.le_of_ble_eq_true rfl⟩) (hP.sub (ws' := []) [] rfl) hK (hE.kept hS.2.1) rfl hl.1 rfl (Nat.le_of_ble_eq_true rfl) dX8_append_10 ⟨Nat.le_of_ble_eq_true rfl, Nat.le_of_ble_eq_true rfl⟩ ?_
  refine b_if_ne (b := pWi (nI x) (nI 33) (nI 126)) (tgt := 22) hx hb dX8_append_13 (by decide) (fun c_1 => ?_) (fun c_2 => by exfalso; rw [pWi_n (by omega) (by omega) (by decide)] at c_2; cases c_2)
  refine lv_aload_n hx hb dX8_append_22 rfl (lv_at hl 0 rfl) ?_
  refine va_get (D := G) (ci := 8) (v := .int (Z 0 7)) (C := RX8) (T := TX8) (N := 16) hx hb hts hinX8 hown hK hP 0 rfl rfl 7 (by decide) lk53 (fun _ h9 => h9) rfl dX8_append_23 ?_
  refine n_top (y := nI L) hle ?_
  refine lv_bipush (v := nI 60) hx hb dX8_append_26 (by decide) ?_
  refine n_icmp_ne (a := L) (b := 60) (tgt := 37) hx hb (by omega) (by decide) dX8_append_28 (by decide) (fun c_3 => ?_) (fun c_4 => by exfalso; omega)
  refine lv_aload_n hx hb dX8_append_37 rfl (lv_at hl 0 rfl) ?_
  refine va_get (D := G) (ci := 8) (v := .ref (q 7)) (C := RX8) (T := TX8) (N := 16) hx hb hts hinX8 hown hK hP 0 rfl rfl 6 (by decide) lk19 (fun _ h9 => h9) rfl dX8_append_38 ?_
  refine lv_aload_n hx hb dX8_append_41 rfl (lv_at hl 0 rfl) ?_
  refine va_get (D := G) (ci := 8) (v := .int (Z 0 7)) (C := RX8) (T := TX8) (N := 16) hx hb hts hinX8 hown hK hP 0 rfl rfl 7 (by decide) lk53 (fun _ h9 => h9) rfl dX8_append_42 ?_
  refine n_top (y := nI L) hle ?_
  refine lv_iload_n hx hb dX8_append_45 rfl (lv_at hl 1 rfl) ?_
  refine n_iast hx hb hK hP hD hS 4 0 rfl rfl L (by omega) (by decide) dX8_append_46 (fun H locs hP hD hS => ?_)
  have hP : va_P G vwCl [(q 0, .inr (8, [.int (nI 0), .ref (q 2), .ref (q 3), .int (Z 0 3), .ref (q 5), .int (Z 0 5), .ref (q 7), .int (Z 0 7), .int (Z 0 8), .int (Z 0 9), .int (Z 0 10), .int (Z 0 11), .ref (q 13), .int (Z 0 13), .ref (q 15), .long g])), (q 2, .inl (T 0, 267, .inl (Z 2))), (q 3, .inl (T 0, 1602, .inl (Z 3))), (q 5, .inl (T 0, 267, .inl (Z 5))), (q 7, .inl (T 0, 60, .inl (upd (Z 7) L (nI x)))), (q 13, .inl (T 0, 8, .inl (Z 13))), (q 15, .inl (T 0, 3, .inl (Z 15)))] H := hP
  have hD : va_D A [(q 0, .inr (8, [.int (nI 0), .ref (q 2), .ref (q 3), .int (Z 0 3), .ref (q 5), .int (Z 0 5), .ref (q 7), .int (Z 0 7), .int (Z 0 8), .int (Z 0 9), .int (Z 0 10), .int (Z 0 11), .ref (q 13), .int (Z 0 13), .ref (q 15), .long g])), (q 2, .inl (T 0, 267, .inl (Z 2))), (q 3, .inl (T 0, 1602, .inl (Z 3))), (q 5, .inl (T 0, 267, .inl (Z 5))), (q 7, .inl (T 0, 60, .inl (upd (Z 7) L (nI x)))), (q 13, .inl (T 0, 8, .inl (Z 13))), (q 15, .inl (T 0, 3, .inl (Z 15)))] := hD
  refine lv_aload_n hx hb dX8_append_47 rfl (lv_at hl 0 rfl) ?_
  refine lv_dup hx hb dX8_append_48 rfl ?_
  refine va_get (D := G) (ci := 8) (v := .int (Z 0 7)) (C := RX8) (T := TX8) (N := 16) hx hb hts hinX8 hown hK hP 0 rfl rfl 7 (by decide) lk53 (fun _ h9 => h9) rfl dX8_append_49 ?_
  refine n_top (y := nI L) hle ?_
  refine n_iconst hx hb 1 dX8_append_52 (by decide) ?_
  refine n_iadd (a := L) (b := 1) hx hb dX8_append_53 ?_
  refine va_put (D := G) (ci := 8) (v := .int (nI (L + 1))) (ty := .int) (C := RX8) (T := TX8) (N := 16) hx hb hts hinX8 tyX8 tyX8_ok nmX8 hown hK hP hD hS 0 rfl rfl 7 (by decide) lk53 (fun _ h9 => h9) rfl (by decide +kernel) rfl rfl (Nat.le_of_ble_eq_true rfl) dX8_append_54 (fun H locs hP hD hS => ?_)
  have hP : va_P G vwCl [(q 0, .inr (8, [.int (nI 0), .ref (q 2), .ref (q 3), .int (Z 0 3), .ref (q 5), .int (Z 0 5), .ref (q 7), .int (nI (L + 1)), .int (Z 0 8), .int (Z 0 9), .int (Z 0 10), .int (Z 0 11), .ref (q 13), .int (Z 0 13), .ref (q 15), .long g])), (q 2, .inl (T 0, 267, .inl (Z 2))), (q 3, .inl (T 0, 1602, .inl (Z 3))), (q 5, .inl (T 0, 267, .inl (Z 5))), (q 7, .inl (T 0, 60, .inl (upd (Z 7) L (nI x)))), (q 13, .inl (T 0, 8, .inl (Z 13))), (q 15, .inl (T 0, 3, .inl (Z 15)))] H := hP
  have hD : va_D A [(q 0, .inr (8, [.int (nI 0), .ref (q 2), .ref (q 3), .int (Z 0 3), .ref (q 5), .int (Z 0 5), .ref (q 7), .int (nI (L + 1)), .int (Z 0 8), .int (Z 0 9), .int (Z 0 10), .int (Z 0 11), .ref (q 13), .int (Z 0 13), .ref (q 15), .long g])), (q 2, .inl (T 0, 267, .inl (Z 2))), (q 3, .inl (T 0, 1602, .inl (Z 3))), (q 5, .inl (T 0, 267, .inl (Z 5))), (q 7, .inl (T 0, 60, .inl (upd (Z 7) L (nI x)))), (q 13, .inl (T 0, 8, .inl (Z 13))), (q 15, .inl (T 0, 3, .inl (Z 15)))] := hD
  refine lv_aload_n hx hb dX8_append_57 rfl (lv_at hl 0 rfl) ?_
  refine va_get (D := G) (ci := 8) (v := .int (nI (L + 1))) (C := RX8) (T := TX8) (N := 16) hx hb hts hinX8 hown hK hP 0 rfl rfl 7 (by decide) lk53 (fun _ h9 => h9) rfl dX8_append_58 ?_
  subst hQ
  have hP9 : va_P G vwCl (oX8 T q (sa (sc (sc Z 0 (nI 0)) 7 (nI (L + 1))) 7 (upd (Z 7) L (nI x))) g) H := hP
  have hD9 : va_D A (oX8 T q (sa (sc (sc Z 0 (nI 0)) 7 (nI (L + 1))) 7 (upd (Z 7) L (nI x))) g) := hD
  exact e_rwi hx hb hr hlocks hS (by first | rfl | simp [bI, c_1, c_3]) hP9 hD9 dX8_append_61
set_option maxHeartbeats 4000000 in
set_option maxRecDepth 100000 in
theorem c_X8_clearBuffer (l : Launch) (G : va_G) (T : Nat → ClassId) (sz : Nat) (q : Nat → Nat) (Z : Nat → Nat → Int32) (g : Int64) : RWi l yX8_clearBuffer wsX8_clearBuffer 0 0 0 G T sz (oX8 T q Z g) [.ref (q 0)] (Z 0 7) (oX8 T q (sc (sc Z 0 (nI 0)) 7 (nI 0)) g) := by
  refine Met.ofW (cc := cX8_clearBuffer) (maxL := 2) (ret := (some .int)) (by decide) rfl ?_
  intro p e s m args below meth c s₁ B hml hv
  obtain ⟨ha, hsz, hP, hK, hD0, hE0⟩ := hv
  have hx := B.exec
  have hb := B.bytes
  have hr := B.returns
  have hlocks := B.notSynchronized
  have hts := atoms_spec (ws := wsX8_clearBuffer) B.pre
  have hown : s.vm.findClass RX8 = some m.cls := findClass_of_methodNamed B.named
  have cx : CallFix p m c cX8_clearBuffer 2 s args wsX8_clearBuffer RX8 := ⟨hx, hb, hml, hown, hts⟩
  subst hsz
  have hD := hD0.self (sz := s.heap.size)
  generalize hAe : va_A (oX8 T q Z g) s.heap.size = A at hD hE0 ⊢
  have hE : gE A s s.heap := hE0
  have hA : ∀ q : Nat, s.heap.size ≤ q → A q := fun q h => by rw [← hAe]; exact Or.inr h
  have hS : va_S A s.heap s.heap [] := va_S.rf
  refine w_entry ha (Nat.le_of_ble_eq_true rfl) (fun ls hl => ?_)
  refine w_q (fun Q0 hQ => ?_)
  have lk28 := hts (.fieldLink RX8 28 "WhistleTunesModel" "thrown" "I") (by decide +kernel)
  have hinX8 : ∀ w ∈ wsX80, w ∈ wsX8_clearBuffer := by decide +kernel
  have lk53 := hts (.fieldLink RX8 53 "WhistleTunesModel" "length" "I") (by decide +kernel)
  have hl : lv_has ls 2 [(0, .ref (q 0))] := hl
  have hP : va_P G vwCl [(q 0, .inr (8, [.int (Z 0 0), .ref (q 2), .ref (q 3), .int (Z 0 3), .ref (q 5), .int (Z 0 5), .ref (q 7), .int (Z 0 7), .int (Z 0 8), .int (Z 0 9), .int (Z 0 10), .int (Z 0 11), .ref (q 13), .int (Z 0 13), .ref (q 15), .long g])), (q 2, .inl (T 0, 267, .inl (Z 2))), (q 3, .inl (T 0, 1602, .inl (Z 3))), (q 5, .inl (T 0, 267, .inl (Z 5))), (q 7, .inl (T 0, 60, .inl (Z 7))), (q 13, .inl (T 0, 8, .inl (Z 13))), (q 15, .inl (T 0, 3, .inl (Z 15)))] s.heap := hP
  have hD : va_D A [(q 0, .inr (8, [.int (Z 0 0), .ref (q 2), .ref (q 3), .int (Z 0 3), .ref (q 5), .int (Z 0 5), .ref (q 7), .int (Z 0 7), .int (Z 0 8), .int (Z 0 9), .int (Z 0 10), .int (Z 0 11), .ref (q 13), .int (Z 0 13), .ref (q 15), .long g])), (q 2, .inl (T 0, 267, .inl (Z 2))), (q 3, .inl (T 0, 1602, .inl (Z 3))), (q 5, .inl (T 0, 267, .inl (Z 5))), (q 7, .inl (T 0, 60, .inl (Z 7))), (q 13, .inl (T 0, 8, .inl (Z 13))), (q 15, .inl (T 0, 3, .inl (Z 15)))] := hD
  skip
  refine w_h (fun H locs hHe hLe => ?_)
  have hP : va_P G vwCl [(q 0, .inr (8, [.int (Z 0 0), .ref (q 2), .ref (q 3), .int (Z 0 3), .ref (q 5), .int (Z 0 5), .ref (q 7), .int (Z 0 7), .int (Z 0 8), .int (Z 0 9), .int (Z 0 10), .int (Z 0 11), .ref (q 13), .int (Z 0 13), .ref (q 15), .long g])), (q 2, .inl (T 0, 267, .inl (Z 2))), (q 3, .inl (T 0, 1602, .inl (Z 3))), (q 5, .inl (T 0, 267, .inl (Z 5))), (q 7, .inl (T 0, 60, .inl (Z 7))), (q 13, .inl (T 0, 8, .inl (Z 13))), (q 15, .inl (T 0, 3, .inl (Z 15)))] H := by rw [hHe]; exact hP
  have hS : va_S A s.heap H locs := by rw [hHe, hLe]; exact hS
  refine lv_aload_n hx hb dX8_clearBuffer_0 rfl (lv_at hl 0 rfl) ?_
  refine n_iconst hx hb 0 dX8_clearBuffer_1 (by decide) ?_
  refine va_put (D := G) (ci := 8) (v := .int (nI 0)) (ty := .int) (C := RX8) (T := TX8) (N := 16) hx hb hts hinX8 tyX8 tyX8_ok nmX8 hown hK hP hD hS 0 rfl rfl 0 (by decide) lk28 (fun _ h9 => h9) rfl (by decide +kernel) rfl rfl (Nat.le_of_ble_eq_true rfl) dX8_clearBuffer_2 (fun H locs hP hD hS => ?_)
  have hP : va_P G vwCl [(q 0, .inr (8, [.int (nI 0), .ref (q 2), .ref (q 3), .int (Z 0 3), .ref (q 5), .int (Z 0 5), .ref (q 7), .int (Z 0 7), .int (Z 0 8), .int (Z 0 9), .int (Z 0 10), .int (Z 0 11), .ref (q 13), .int (Z 0 13), .ref (q 15), .long g])), (q 2, .inl (T 0, 267, .inl (Z 2))), (q 3, .inl (T 0, 1602, .inl (Z 3))), (q 5, .inl (T 0, 267, .inl (Z 5))), (q 7, .inl (T 0, 60, .inl (Z 7))), (q 13, .inl (T 0, 8, .inl (Z 13))), (q 15, .inl (T 0, 3, .inl (Z 15)))] H := hP
  have hD : va_D A [(q 0, .inr (8, [.int (nI 0), .ref (q 2), .ref (q 3), .int (Z 0 3), .ref (q 5), .int (Z 0 5), .ref (q 7), .int (Z 0 7), .int (Z 0 8), .int (Z 0 9), .int (Z 0 10), .int (Z 0 11), .ref (q 13), .int (Z 0 13), .ref (q 15), .long g])), (q 2, .inl (T 0, 267, .inl (Z 2))), (q 3, .inl (T 0, 1602, .inl (Z 3))), (q 5, .inl (T 0, 267, .inl (Z 5))), (q 7, .inl (T 0, 60, .inl (Z 7))), (q 13, .inl (T 0, 8, .inl (Z 13))), (q 15, .inl (T 0, 3, .inl (Z 15)))] := hD
  refine lv_aload_n hx hb dX8_clearBuffer_5 rfl (lv_at hl 0 rfl) ?_
  refine va_get (D := G) (ci := 8) (v := .int (Z 0 7)) (C := RX8) (T := TX8) (N := 16) hx hb hts hinX8 hown hK hP 0 rfl rfl 7 (by decide) lk53 (fun _ h9 => h9) rfl dX8_clearBuffer_6 ?_
  refine lv_istore_n (lv' := [(1, .int (Z 0 7)), (0, .ref (q 0))]) hx hb dX8_clearBuffer_9 rfl hl (by decide) rfl (fun ls hl => ?_)
  refine lv_aload_n hx hb dX8_clearBuffer_10 rfl (lv_at hl 1 rfl) ?_
  refine n_iconst hx hb 0 dX8_clearBuffer_11 (by decide) ?_
  refine va_put (D := G) (ci := 8) (v := .int (nI 0)) (ty := .int) (C := RX8) (T := TX8) (N := 16) hx hb hts hinX8 tyX8 tyX8_ok nmX8 hown hK hP hD hS 0 rfl rfl 7 (by decide) lk53 (fun _ h9 => h9) rfl (by decide +kernel) rfl rfl (Nat.le_of_ble_eq_true rfl) dX8_clearBuffer_12 (fun H locs hP hD hS => ?_)
  have hP : va_P G vwCl [(q 0, .inr (8, [.int (nI 0), .ref (q 2), .ref (q 3), .int (Z 0 3), .ref (q 5), .int (Z 0 5), .ref (q 7), .int (nI 0), .int (Z 0 8), .int (Z 0 9), .int (Z 0 10), .int (Z 0 11), .ref (q 13), .int (Z 0 13), .ref (q 15), .long g])), (q 2, .inl (T 0, 267, .inl (Z 2))), (q 3, .inl (T 0, 1602, .inl (Z 3))), (q 5, .inl (T 0, 267, .inl (Z 5))), (q 7, .inl (T 0, 60, .inl (Z 7))), (q 13, .inl (T 0, 8, .inl (Z 13))), (q 15, .inl (T 0, 3, .inl (Z 15)))] H := hP
  have hD : va_D A [(q 0, .inr (8, [.int (nI 0), .ref (q 2), .ref (q 3), .int (Z 0 3), .ref (q 5), .int (Z 0 5), .ref (q 7), .int (nI 0), .int (Z 0 8), .int (Z 0 9), .int (Z 0 10), .int (Z 0 11), .ref (q 13), .int (Z 0 13), .ref (q 15), .long g])), (q 2, .inl (T 0, 267, .inl (Z 2))), (q 3, .inl (T 0, 1602, .inl (Z 3))), (q 5, .inl (T 0, 267, .inl (Z 5))), (q 7, .inl (T 0, 60, .inl (Z 7))), (q 13, .inl (T 0, 8, .inl (Z 13))), (q 15, .inl (T 0, 3, .inl (Z 15)))] := hD
  refine lv_iload_n hx hb dX8_clearBuffer_15 rfl (lv_at hl 0 rfl) ?_
  subst hQ
  have hP9 : va_P G vwCl (oX8 T q (sc (sc Z 0 (nI 0)) 7 (nI 0)) g) H := hP
  have hD9 : va_D A (oX8 T q (sc (sc Z 0 (nI 0)) 7 (nI 0)) g) := hD
  exact e_rwi hx hb hr hlocks hS (by first | rfl | simp [bI]) hP9 hD9 dX8_clearBuffer_16
set_option maxHeartbeats 4000000 in
set_option maxRecDepth 100000 in
theorem c_X8_teach_2 (l : Launch) (G : va_G) (T : Nat → ClassId) (sz : Nat) (q : Nat → Nat) (Z : Nat → Nat → Int32) (g : Int64) (L : Nat) (cd : Nat → Nat) (mm : Nat) (hle : Z 0 7 = nI L) (hcd : ∀ i : Nat, i < L → Z 7 i = nI (cd i)) (hc127 : ∀ i : Nat, i < L → cd i < 127) (hL60 : L ≤ 60) (hm20 : mm < 20) (hno : tuB cd L Z = false) : RWi l yX8_teach wsX8_teach 6 0 0 G T sz (oX8 T q Z g) [.ref (q 0), .int (nI mm)] (nI 0) (oX8 T q (sa (sa (sc (sc (sc Z 0 (nI 2)) 8 (nI (rtE cd L 0 (Z 13) (Z 15)).1.1)) 13 (nI (rtE cd L 0 (Z 13) (Z 15)).1.2.1)) 13 (rtE cd L 0 (Z 13) (Z 15)).1.2.2) 15 (rtE cd L 0 (Z 13) (Z 15)).2.1.2) g) := by
  refine Met.ofW (cc := cX8_teach) (maxL := 2) (ret := (some .int)) (by decide) rfl ?_
  intro p e s m args below meth c s₁ B hml hv
  obtain ⟨ha, hsz, hP, hK, hD0, hE0⟩ := hv
  have hx := B.exec
  have hb := B.bytes
  have hr := B.returns
  have hlocks := B.notSynchronized
  have hts := atoms_spec (ws := wsX8_teach) B.pre
  have hown : s.vm.findClass RX8 = some m.cls := findClass_of_methodNamed B.named
  have cx : CallFix p m c cX8_teach 2 s args wsX8_teach RX8 := ⟨hx, hb, hml, hown, hts⟩
  subst hsz
  have hD := hD0.self (sz := s.heap.size)
  generalize hAe : va_A (oX8 T q Z g) s.heap.size = A at hD hE0 ⊢
  have hE : gE A s s.heap := hE0
  have hA : ∀ q : Nat, s.heap.size ≤ q → A q := fun q h => by rw [← hAe]; exact Or.inr h
  have hS : va_S A s.heap s.heap [] := va_S.rf
  refine w_entry ha (Nat.le_of_ble_eq_true rfl) (fun ls hl => ?_)
  refine w_q (fun Q0 hQ => ?_)
  have lk28 := hts (.fieldLink RX8 28 "WhistleTunesModel" "thrown" "I") (by decide +kernel)
  have hinX8 : ∀ w ∈ wsX80, w ∈ wsX8_teach := by decide +kernel
  have hl : lv_has ls 2 [(0, .ref (q 0)), (1, .int (nI mm))] := hl
  have hP : va_P G vwCl [(q 0, .inr (8, [.int (Z 0 0), .ref (q 2), .ref (q 3), .int (Z 0 3), .ref (q 5), .int (Z 0 5), .ref (q 7), .int (Z 0 7), .int (Z 0 8), .int (Z 0 9), .int (Z 0 10), .int (Z 0 11), .ref (q 13), .int (Z 0 13), .ref (q 15), .long g])), (q 2, .inl (T 0, 267, .inl (Z 2))), (q 3, .inl (T 0, 1602, .inl (Z 3))), (q 5, .inl (T 0, 267, .inl (Z 5))), (q 7, .inl (T 0, 60, .inl (Z 7))), (q 13, .inl (T 0, 8, .inl (Z 13))), (q 15, .inl (T 0, 3, .inl (Z 15)))] s.heap := hP
  have hD : va_D A [(q 0, .inr (8, [.int (Z 0 0), .ref (q 2), .ref (q 3), .int (Z 0 3), .ref (q 5), .int (Z 0 5), .ref (q 7), .int (Z 0 7), .int (Z 0 8), .int (Z 0 9), .int (Z 0 10), .int (Z 0 11), .ref (q 13), .int (Z 0 13), .ref (q 15), .long g])), (q 2, .inl (T 0, 267, .inl (Z 2))), (q 3, .inl (T 0, 1602, .inl (Z 3))), (q 5, .inl (T 0, 267, .inl (Z 5))), (q 7, .inl (T 0, 60, .inl (Z 7))), (q 13, .inl (T 0, 8, .inl (Z 13))), (q 15, .inl (T 0, 3, .inl (Z 15)))] := hD
  skip
  refine w_h (fun H locs hHe hLe => ?_)
  have hP : va_P G vwCl [(q 0, .inr (8, [.int (Z 0 0), .ref (q 2), .ref (q 3), .int (Z 0 3), .ref (q 5), .int (Z 0 5), .ref (q 7), .int (Z 0 7), .int (Z 0 8), .int (Z 0 9), .int (Z 0 10), .int (Z 0 11), .ref (q 13), .int (Z 0 13), .ref (q 15), .long g])), (q 2, .inl (T 0, 267, .inl (Z 2))), (q 3, .inl (T 0, 1602, .inl (Z 3))), (q 5, .inl (T 0, 267, .inl (Z 5))), (q 7, .inl (T 0, 60, .inl (Z 7))), (q 13, .inl (T 0, 8, .inl (Z 13))), (q 15, .inl (T 0, 3, .inl (Z 15)))] H := by rw [hHe]; exact hP
  have hS : va_S A s.heap H locs := by rw [hHe, hLe]; exact hS
  refine lv_aload_n hx hb dX8_teach_0 rfl (lv_at hl 0 rfl) ?_
  refine n_iconst hx hb 0 dX8_teach_1 (by decide) ?_
  refine va_put (D := G) (ci := 8) (v := .int (nI 0)) (ty := .int) (C := RX8) (T := TX8) (N := 16) hx hb hts hinX8 tyX8 tyX8_ok nmX8 hown hK hP hD hS 0 rfl rfl 0 (by decide) lk28 (fun _ h9 => h9) rfl (by decide +kernel) rfl rfl (Nat.le_of_ble_eq_true rfl) dX8_teach_2 (fun H locs hP hD hS => ?_)
  have hP : va_P G vwCl [(q 0, .inr (8, [.int (nI 0), .ref (q 2), .ref (q 3), .int (Z 0 3), .ref (q 5), .int (Z 0 5), .ref (q 7), .int (Z 0 7), .int (Z 0 8), .int (Z 0 9), .int (Z 0 10), .int (Z 0 11), .ref (q 13), .int (Z 0 13), .ref (q 15), .long g])), (q 2, .inl (T 0, 267, .inl (Z 2))), (q 3, .inl (T 0, 1602, .inl (Z 3))), (q 5, .inl (T 0, 267, .inl (Z 5))), (q 7, .inl (T 0, 60, .inl (Z 7))), (q 13, .inl (T 0, 8, .inl (Z 13))), (q 15, .inl (T 0, 3, .inl (Z 15)))] H := hP
  have hD : va_D A [(q 0, .inr (8, [.int (nI 0), .ref (q 2), .ref (q 3), .int (Z 0 3), .ref (q 5), .int (Z 0 5), .ref (q 7), .int (Z 0 7), .int (Z 0 8), .int (Z 0 9), .int (Z 0 10), .int (Z 0 11), .ref (q 13), .int (Z 0 13), .ref (q 15), .long g])), (q 2, .inl (T 0, 267, .inl (Z 2))), (q 3, .inl (T 0, 1602, .inl (Z 3))), (q 5, .inl (T 0, 267, .inl (Z 5))), (q 7, .inl (T 0, 60, .inl (Z 7))), (q 13, .inl (T 0, 8, .inl (Z 13))), (q 15, .inl (T 0, 3, .inl (Z 15)))] := hD
  refine lv_iload_n hx hb dX8_teach_5 rfl (lv_at hl 1 rfl) ?_
  refine k_roS (As := [.int (nI mm)]) (rest := []) (wc := []) (d := 1) (v := bI (pWi (nI mm) (nI 0) (nI 19))) cx (c_X8_isMessage l G T A (nI mm) ) (va_cwS 1 hts gX8_teach_X8_isMessage rfl rfl rfl (by decide +kernel) ⟨Nat.le_of_ble_eq_true rfl, Nat.le_of_ble_eq_true rfl⟩) (hP.sub (ws' := []) [] rfl) hK (hE.kept hS.2.1) rfl hl.1 rfl (Nat.le_of_ble_eq_true rfl) dX8_teach_6 ⟨Nat.le_of_ble_eq_true rfl, Nat.le_of_ble_eq_true rfl⟩ ?_
  refine b_if_ne (b := pWi (nI mm) (nI 0) (nI 19)) (tgt := 18) hx hb dX8_teach_9 (by decide) (fun c_1 => ?_) (fun c_2 => by exfalso; rw [pWi_n (by omega) (by omega) (by decide)] at c_2; cases c_2)
  refine lv_aload_n hx hb dX8_teach_18 rfl (lv_at hl 0 rfl) ?_
  refine k_rwV (As := []) (rest := []) (wc := oX8 T q (sc Z 0 (nI 0)) g) (wr := []) (w1 := oX8 T q (sa (sa (sc (sc (sc Z 0 (nI 0)) 8 (nI (rtE cd L 0 ((sc Z 0 (nI 0)) 13) ((sc Z 0 (nI 0)) 15)).1.1)) 13 (nI (rtE cd L 0 ((sc Z 0 (nI 0)) 13) ((sc Z 0 (nI 0)) 15)).1.2.1)) 13 (rtE cd L 0 ((sc Z 0 (nI 0)) 13) ((sc Z 0 (nI 0)) 15)).1.2.2) 15 (rtE cd L 0 ((sc Z 0 (nI 0)) 13) ((sc Z 0 (nI 0)) 15)).2.1.2) g) (d := 3) (mc := 0) (ms := 0) (v := bI (rtB (rtE cd L 0 ((Z 13)) ((Z 15))) && decide ((rtE cd L 0 ((Z 13)) ((Z 15))).1.1 = L))) (isC := [0, 1, 2, 3, 4, 5, 6]) (isR := []) cx (c_X8_isTuneText l G T H.size q (sc Z 0 (nI 0)) g L cd (by first | assumption | rfl | omega) (by first | assumption | rfl | omega) (by omega) (by omega)) (cwV 0 hts gX8_teach_X8_isTuneText rfl rfl rfl (by decide +kernel) ⟨Nat.le_of_ble_eq_true rfl, Nat.le_of_ble_eq_true rfl⟩) ⟨hP, hD, hS, hA, hE, hK, rfl, rfl, rfl, rfl, by decide⟩ (va_recv hK hP (ci := 8) (q0 := 0) rfl rfl) rfl hl.1 rfl (Nat.le_of_ble_eq_true rfl) dX8_teach_19 ⟨Nat.le_of_ble_eq_true rfl, Nat.le_of_ble_eq_true rfl⟩ (fun H locs hP hD hS hz => ?_)
  have hP : va_P G vwCl [(q 0, .inr (8, [.int (nI 0), .ref (q 2), .ref (q 3), .int (Z 0 3), .ref (q 5), .int (Z 0 5), .ref (q 7), .int (Z 0 7), .int (nI (rtE cd L 0 ((Z 13)) ((Z 15))).1.1), .int (Z 0 9), .int (Z 0 10), .int (Z 0 11), .ref (q 13), .int (nI (rtE cd L 0 ((Z 13)) ((Z 15))).1.2.1), .ref (q 15), .long g])), (q 2, .inl (T 0, 267, .inl (Z 2))), (q 3, .inl (T 0, 1602, .inl (Z 3))), (q 5, .inl (T 0, 267, .inl (Z 5))), (q 7, .inl (T 0, 60, .inl (Z 7))), (q 13, .inl (T 0, 8, .inl (rtE cd L 0 ((Z 13)) ((Z 15))).1.2.2)), (q 15, .inl (T 0, 3, .inl (rtE cd L 0 ((Z 13)) ((Z 15))).2.1.2))] H := hP
  have hD : va_D A [(q 0, .inr (8, [.int (nI 0), .ref (q 2), .ref (q 3), .int (Z 0 3), .ref (q 5), .int (Z 0 5), .ref (q 7), .int (Z 0 7), .int (nI (rtE cd L 0 ((Z 13)) ((Z 15))).1.1), .int (Z 0 9), .int (Z 0 10), .int (Z 0 11), .ref (q 13), .int (nI (rtE cd L 0 ((Z 13)) ((Z 15))).1.2.1), .ref (q 15), .long g])), (q 2, .inl (T 0, 267, .inl (Z 2))), (q 3, .inl (T 0, 1602, .inl (Z 3))), (q 5, .inl (T 0, 267, .inl (Z 5))), (q 7, .inl (T 0, 60, .inl (Z 7))), (q 13, .inl (T 0, 8, .inl (rtE cd L 0 ((Z 13)) ((Z 15))).1.2.2)), (q 15, .inl (T 0, 3, .inl (rtE cd L 0 ((Z 13)) ((Z 15))).2.1.2))] := hD
  refine b_if_ne (b := rtB (rtE cd L 0 ((Z 13)) ((Z 15))) && decide ((rtE cd L 0 ((Z 13)) ((Z 15))).1.1 = L)) (tgt := 31) hx hb dX8_teach_22 (by decide) (fun c_3 => by exfalso; exact absurd hno (by unfold tuB; rw [c_3]; decide)) (fun c_4 => ?_)
  refine lv_aload_n hx hb dX8_teach_25 rfl (lv_at hl 0 rfl) ?_
  refine n_iconst hx hb 2 dX8_teach_26 (by decide) ?_
  refine k_rwV (As := [.int (nI 2)]) (rest := []) (wc := oX8 T q (sa (sa (sc (sc (sc Z 0 (nI 0)) 8 (nI (rtE cd L 0 ((Z 13)) ((Z 15))).1.1)) 13 (nI (rtE cd L 0 ((Z 13)) ((Z 15))).1.2.1)) 13 (rtE cd L 0 ((Z 13)) ((Z 15))).1.2.2) 15 (rtE cd L 0 ((Z 13)) ((Z 15))).2.1.2) g) (wr := []) (w1 := oX8 T q (sc (sa (sa (sc (sc (sc Z 0 (nI 0)) 8 (nI (rtE cd L 0 ((Z 13)) ((Z 15))).1.1)) 13 (nI (rtE cd L 0 ((Z 13)) ((Z 15))).1.2.1)) 13 (rtE cd L 0 ((Z 13)) ((Z 15))).1.2.2) 15 (rtE cd L 0 ((Z 13)) ((Z 15))).2.1.2) 0 (nI 2)) g) (d := 0) (mc := 0) (ms := 0) (v := nI 0) (isC := [0, 1, 2, 3, 4, 5, 6]) (isR := []) cx (c_X8_fails l G T H.size q (sa (sa (sc (sc (sc Z 0 (nI 0)) 8 (nI (rtE cd L 0 ((Z 13)) ((Z 15))).1.1)) 13 (nI (rtE cd L 0 ((Z 13)) ((Z 15))).1.2.1)) 13 (rtE cd L 0 ((Z 13)) ((Z 15))).1.2.2) 15 (rtE cd L 0 ((Z 13)) ((Z 15))).2.1.2) g (nI 2) ) (cwV 1 hts gX8_teach_X8_fails rfl rfl rfl (by decide +kernel) ⟨Nat.le_of_ble_eq_true rfl, Nat.le_of_ble_eq_true rfl⟩) ⟨hP, hD, hS, hA, hE, hK, rfl, rfl, rfl, rfl, by decide⟩ (va_recv hK hP (ci := 8) (q0 := 0) rfl rfl) rfl hl.1 rfl (Nat.le_of_ble_eq_true rfl) dX8_teach_27 ⟨Nat.le_of_ble_eq_true rfl, Nat.le_of_ble_eq_true rfl⟩ (fun H locs hP hD hS hz => ?_)
  have hP : va_P G vwCl [(q 0, .inr (8, [.int (nI 2), .ref (q 2), .ref (q 3), .int (Z 0 3), .ref (q 5), .int (Z 0 5), .ref (q 7), .int (Z 0 7), .int (nI (rtE cd L 0 ((Z 13)) ((Z 15))).1.1), .int (Z 0 9), .int (Z 0 10), .int (Z 0 11), .ref (q 13), .int (nI (rtE cd L 0 ((Z 13)) ((Z 15))).1.2.1), .ref (q 15), .long g])), (q 2, .inl (T 0, 267, .inl (Z 2))), (q 3, .inl (T 0, 1602, .inl (Z 3))), (q 5, .inl (T 0, 267, .inl (Z 5))), (q 7, .inl (T 0, 60, .inl (Z 7))), (q 13, .inl (T 0, 8, .inl (rtE cd L 0 ((Z 13)) ((Z 15))).1.2.2)), (q 15, .inl (T 0, 3, .inl (rtE cd L 0 ((Z 13)) ((Z 15))).2.1.2))] H := hP
  have hD : va_D A [(q 0, .inr (8, [.int (nI 2), .ref (q 2), .ref (q 3), .int (Z 0 3), .ref (q 5), .int (Z 0 5), .ref (q 7), .int (Z 0 7), .int (nI (rtE cd L 0 ((Z 13)) ((Z 15))).1.1), .int (Z 0 9), .int (Z 0 10), .int (Z 0 11), .ref (q 13), .int (nI (rtE cd L 0 ((Z 13)) ((Z 15))).1.2.1), .ref (q 15), .long g])), (q 2, .inl (T 0, 267, .inl (Z 2))), (q 3, .inl (T 0, 1602, .inl (Z 3))), (q 5, .inl (T 0, 267, .inl (Z 5))), (q 7, .inl (T 0, 60, .inl (Z 7))), (q 13, .inl (T 0, 8, .inl (rtE cd L 0 ((Z 13)) ((Z 15))).1.2.2)), (q 15, .inl (T 0, 3, .inl (rtE cd L 0 ((Z 13)) ((Z 15))).2.1.2))] := hD
  subst hQ
  have e_5 : (nI 2) = nI 2 := (by first | rfl | simp [bI, c_1, c_4])
  have e_6 : nI (rtE cd L 0 ((Z 13)) ((Z 15))).1.1 = nI (rtE cd L 0 (Z 13) (Z 15)).1.1 := (by first | rfl | simp [bI, c_1, c_4])
  have e_7 : (rtE cd L 0 ((Z 13)) ((Z 15))).1.2.2 = (rtE cd L 0 (Z 13) (Z 15)).1.2.2 := (by first | rfl | simp [bI, c_1, c_4])
  have e_8 : nI (rtE cd L 0 ((Z 13)) ((Z 15))).1.2.1 = nI (rtE cd L 0 (Z 13) (Z 15)).1.2.1 := (by first | rfl | simp [bI, c_1, c_4])
  have e_9 : (rtE cd L 0 ((Z 13)) ((Z 15))).2.1.2 = (rtE cd L 0 (Z 13) (Z 15)).2.1.2 := (by first | rfl | simp [bI, c_1, c_4])
  rw [e_8, e_6, e_7, e_9, e_5] at hP hD
  have hP9 : va_P G vwCl (oX8 T q (sa (sa (sc (sc (sc Z 0 (nI 2)) 8 (nI (rtE cd L 0 (Z 13) (Z 15)).1.1)) 13 (nI (rtE cd L 0 (Z 13) (Z 15)).1.2.1)) 13 (rtE cd L 0 (Z 13) (Z 15)).1.2.2) 15 (rtE cd L 0 (Z 13) (Z 15)).2.1.2) g) H := hP
  have hD9 : va_D A (oX8 T q (sa (sa (sc (sc (sc Z 0 (nI 2)) 8 (nI (rtE cd L 0 (Z 13) (Z 15)).1.1)) 13 (nI (rtE cd L 0 (Z 13) (Z 15)).1.2.1)) 13 (rtE cd L 0 (Z 13) (Z 15)).1.2.2) 15 (rtE cd L 0 (Z 13) (Z 15)).2.1.2) g) := hD
  exact e_rwi hx hb hr hlocks hS (by first | rfl | simp [bI, c_1, c_4]) hP9 hD9 dX8_teach_30
set_option maxHeartbeats 4000000 in
set_option maxRecDepth 100000 in
theorem c_X8_teach_3 (l : Launch) (G : va_G) (T : Nat → ClassId) (sz : Nat) (q : Nat → Nat) (Z : Nat → Nat → Int32) (g : Int64) (L : Nat) (cd : Nat → Nat) (mm : Nat) (hle : Z 0 7 = nI L) (hcd : ∀ i : Nat, i < L → Z 7 i = nI (cd i)) (hc127 : ∀ i : Nat, i < L → cd i < 127) (hL60 : L ≤ 60) (hm20 : mm < 20) (hyes : tuB cd L Z = true) (hno : ¬ mWT (tuZ cd L Z) mm (tuN cd L Z) = 0) : RWi l yX8_teach wsX8_teach 6 0 0 G T sz (oX8 T q Z g) [.ref (q 0), .int (nI mm)] (nI 0) (oX8 T q (sa (sa (sc (sc (sc Z 0 (nI 3)) 8 (nI (rtE cd L 0 (Z 13) (Z 15)).1.1)) 13 (nI (rtE cd L 0 (Z 13) (Z 15)).1.2.1)) 13 (rtE cd L 0 (Z 13) (Z 15)).1.2.2) 15 (rtE cd L 0 (Z 13) (Z 15)).2.1.2) g) := by
  refine Met.ofW (cc := cX8_teach) (maxL := 2) (ret := (some .int)) (by decide) rfl ?_
  intro p e s m args below meth c s₁ B hml hv
  obtain ⟨ha, hsz, hP, hK, hD0, hE0⟩ := hv
  have hx := B.exec
  have hb := B.bytes
  have hr := B.returns
  have hlocks := B.notSynchronized
  have hts := atoms_spec (ws := wsX8_teach) B.pre
  have hown : s.vm.findClass RX8 = some m.cls := findClass_of_methodNamed B.named
  have cx : CallFix p m c cX8_teach 2 s args wsX8_teach RX8 := ⟨hx, hb, hml, hown, hts⟩
  subst hsz
  have hD := hD0.self (sz := s.heap.size)
  generalize hAe : va_A (oX8 T q Z g) s.heap.size = A at hD hE0 ⊢
  have hE : gE A s s.heap := hE0
  have hA : ∀ q : Nat, s.heap.size ≤ q → A q := fun q h => by rw [← hAe]; exact Or.inr h
  have hS : va_S A s.heap s.heap [] := va_S.rf
  refine w_entry ha (Nat.le_of_ble_eq_true rfl) (fun ls hl => ?_)
  refine w_q (fun Q0 hQ => ?_)
  have lk28 := hts (.fieldLink RX8 28 "WhistleTunesModel" "thrown" "I") (by decide +kernel)
  have hinX8 : ∀ w ∈ wsX80, w ∈ wsX8_teach := by decide +kernel
  have hl : lv_has ls 2 [(0, .ref (q 0)), (1, .int (nI mm))] := hl
  have hP : va_P G vwCl [(q 0, .inr (8, [.int (Z 0 0), .ref (q 2), .ref (q 3), .int (Z 0 3), .ref (q 5), .int (Z 0 5), .ref (q 7), .int (Z 0 7), .int (Z 0 8), .int (Z 0 9), .int (Z 0 10), .int (Z 0 11), .ref (q 13), .int (Z 0 13), .ref (q 15), .long g])), (q 2, .inl (T 0, 267, .inl (Z 2))), (q 3, .inl (T 0, 1602, .inl (Z 3))), (q 5, .inl (T 0, 267, .inl (Z 5))), (q 7, .inl (T 0, 60, .inl (Z 7))), (q 13, .inl (T 0, 8, .inl (Z 13))), (q 15, .inl (T 0, 3, .inl (Z 15)))] s.heap := hP
  have hD : va_D A [(q 0, .inr (8, [.int (Z 0 0), .ref (q 2), .ref (q 3), .int (Z 0 3), .ref (q 5), .int (Z 0 5), .ref (q 7), .int (Z 0 7), .int (Z 0 8), .int (Z 0 9), .int (Z 0 10), .int (Z 0 11), .ref (q 13), .int (Z 0 13), .ref (q 15), .long g])), (q 2, .inl (T 0, 267, .inl (Z 2))), (q 3, .inl (T 0, 1602, .inl (Z 3))), (q 5, .inl (T 0, 267, .inl (Z 5))), (q 7, .inl (T 0, 60, .inl (Z 7))), (q 13, .inl (T 0, 8, .inl (Z 13))), (q 15, .inl (T 0, 3, .inl (Z 15)))] := hD
  skip
  have htn := tuN_le cd L Z
  have hta := tuA_le cd L Z
  unfold tuN at htn
  refine w_h (fun H locs hHe hLe => ?_)
  have hP : va_P G vwCl [(q 0, .inr (8, [.int (Z 0 0), .ref (q 2), .ref (q 3), .int (Z 0 3), .ref (q 5), .int (Z 0 5), .ref (q 7), .int (Z 0 7), .int (Z 0 8), .int (Z 0 9), .int (Z 0 10), .int (Z 0 11), .ref (q 13), .int (Z 0 13), .ref (q 15), .long g])), (q 2, .inl (T 0, 267, .inl (Z 2))), (q 3, .inl (T 0, 1602, .inl (Z 3))), (q 5, .inl (T 0, 267, .inl (Z 5))), (q 7, .inl (T 0, 60, .inl (Z 7))), (q 13, .inl (T 0, 8, .inl (Z 13))), (q 15, .inl (T 0, 3, .inl (Z 15)))] H := by rw [hHe]; exact hP
  have hS : va_S A s.heap H locs := by rw [hHe, hLe]; exact hS
  refine lv_aload_n hx hb dX8_teach_0 rfl (lv_at hl 0 rfl) ?_
  refine n_iconst hx hb 0 dX8_teach_1 (by decide) ?_
  refine va_put (D := G) (ci := 8) (v := .int (nI 0)) (ty := .int) (C := RX8) (T := TX8) (N := 16) hx hb hts hinX8 tyX8 tyX8_ok nmX8 hown hK hP hD hS 0 rfl rfl 0 (by decide) lk28 (fun _ h9 => h9) rfl (by decide +kernel) rfl rfl (Nat.le_of_ble_eq_true rfl) dX8_teach_2 (fun H locs hP hD hS => ?_)
  have hP : va_P G vwCl [(q 0, .inr (8, [.int (nI 0), .ref (q 2), .ref (q 3), .int (Z 0 3), .ref (q 5), .int (Z 0 5), .ref (q 7), .int (Z 0 7), .int (Z 0 8), .int (Z 0 9), .int (Z 0 10), .int (Z 0 11), .ref (q 13), .int (Z 0 13), .ref (q 15), .long g])), (q 2, .inl (T 0, 267, .inl (Z 2))), (q 3, .inl (T 0, 1602, .inl (Z 3))), (q 5, .inl (T 0, 267, .inl (Z 5))), (q 7, .inl (T 0, 60, .inl (Z 7))), (q 13, .inl (T 0, 8, .inl (Z 13))), (q 15, .inl (T 0, 3, .inl (Z 15)))] H := hP
  have hD : va_D A [(q 0, .inr (8, [.int (nI 0), .ref (q 2), .ref (q 3), .int (Z 0 3), .ref (q 5), .int (Z 0 5), .ref (q 7), .int (Z 0 7), .int (Z 0 8), .int (Z 0 9), .int (Z 0 10), .int (Z 0 11), .ref (q 13), .int (Z 0 13), .ref (q 15), .long g])), (q 2, .inl (T 0, 267, .inl (Z 2))), (q 3, .inl (T 0, 1602, .inl (Z 3))), (q 5, .inl (T 0, 267, .inl (Z 5))), (q 7, .inl (T 0, 60, .inl (Z 7))), (q 13, .inl (T 0, 8, .inl (Z 13))), (q 15, .inl (T 0, 3, .inl (Z 15)))] := hD
  refine lv_iload_n hx hb dX8_teach_5 rfl (lv_at hl 1 rfl) ?_
  refine k_roS (As := [.int (nI mm)]) (rest := []) (wc := []) (d := 1) (v := bI (pWi (nI mm) (nI 0) (nI 19))) cx (c_X8_isMessage l G T A (nI mm) ) (va_cwS 1 hts gX8_teach_X8_isMessage rfl rfl rfl (by decide +kernel) ⟨Nat.le_of_ble_eq_true rfl, Nat.le_of_ble_eq_true rfl⟩) (hP.sub (ws' := []) [] rfl) hK (hE.kept hS.2.1) rfl hl.1 rfl (Nat.le_of_ble_eq_true rfl) dX8_teach_6 ⟨Nat.le_of_ble_eq_true rfl, Nat.le_of_ble_eq_true rfl⟩ ?_
  refine b_if_ne (b := pWi (nI mm) (nI 0) (nI 19)) (tgt := 18) hx hb dX8_teach_9 (by decide) (fun c_1 => ?_) (fun c_2 => by exfalso; rw [pWi_n (by omega) (by omega) (by decide)] at c_2; cases c_2)
  refine lv_aload_n hx hb dX8_teach_18 rfl (lv_at hl 0 rfl) ?_
  refine k_rwV (As := []) (rest := []) (wc := oX8 T q (sc Z 0 (nI 0)) g) (wr := []) (w1 := oX8 T q (sa (sa (sc (sc (sc Z 0 (nI 0)) 8 (nI (rtE cd L 0 ((sc Z 0 (nI 0)) 13) ((sc Z 0 (nI 0)) 15)).1.1)) 13 (nI (rtE cd L 0 ((sc Z 0 (nI 0)) 13) ((sc Z 0 (nI 0)) 15)).1.2.1)) 13 (rtE cd L 0 ((sc Z 0 (nI 0)) 13) ((sc Z 0 (nI 0)) 15)).1.2.2) 15 (rtE cd L 0 ((sc Z 0 (nI 0)) 13) ((sc Z 0 (nI 0)) 15)).2.1.2) g) (d := 3) (mc := 0) (ms := 0) (v := bI (rtB (rtE cd L 0 ((Z 13)) ((Z 15))) && decide ((rtE cd L 0 ((Z 13)) ((Z 15))).1.1 = L))) (isC := [0, 1, 2, 3, 4, 5, 6]) (isR := []) cx (c_X8_isTuneText l G T H.size q (sc Z 0 (nI 0)) g L cd (by first | assumption | rfl | omega) (by first | assumption | rfl | omega) (by omega) (by omega)) (cwV 0 hts gX8_teach_X8_isTuneText rfl rfl rfl (by decide +kernel) ⟨Nat.le_of_ble_eq_true rfl, Nat.le_of_ble_eq_true rfl⟩) ⟨hP, hD, hS, hA, hE, hK, rfl, rfl, rfl, rfl, by decide⟩ (va_recv hK hP (ci := 8) (q0 := 0) rfl rfl) rfl hl.1 rfl (Nat.le_of_ble_eq_true rfl) dX8_teach_19 ⟨Nat.le_of_ble_eq_true rfl, Nat.le_of_ble_eq_true rfl⟩ (fun H locs hP hD hS hz => ?_)
  have hP : va_P G vwCl [(q 0, .inr (8, [.int (nI 0), .ref (q 2), .ref (q 3), .int (Z 0 3), .ref (q 5), .int (Z 0 5), .ref (q 7), .int (Z 0 7), .int (nI (rtE cd L 0 ((Z 13)) ((Z 15))).1.1), .int (Z 0 9), .int (Z 0 10), .int (Z 0 11), .ref (q 13), .int (nI (rtE cd L 0 ((Z 13)) ((Z 15))).1.2.1), .ref (q 15), .long g])), (q 2, .inl (T 0, 267, .inl (Z 2))), (q 3, .inl (T 0, 1602, .inl (Z 3))), (q 5, .inl (T 0, 267, .inl (Z 5))), (q 7, .inl (T 0, 60, .inl (Z 7))), (q 13, .inl (T 0, 8, .inl (rtE cd L 0 ((Z 13)) ((Z 15))).1.2.2)), (q 15, .inl (T 0, 3, .inl (rtE cd L 0 ((Z 13)) ((Z 15))).2.1.2))] H := hP
  have hD : va_D A [(q 0, .inr (8, [.int (nI 0), .ref (q 2), .ref (q 3), .int (Z 0 3), .ref (q 5), .int (Z 0 5), .ref (q 7), .int (Z 0 7), .int (nI (rtE cd L 0 ((Z 13)) ((Z 15))).1.1), .int (Z 0 9), .int (Z 0 10), .int (Z 0 11), .ref (q 13), .int (nI (rtE cd L 0 ((Z 13)) ((Z 15))).1.2.1), .ref (q 15), .long g])), (q 2, .inl (T 0, 267, .inl (Z 2))), (q 3, .inl (T 0, 1602, .inl (Z 3))), (q 5, .inl (T 0, 267, .inl (Z 5))), (q 7, .inl (T 0, 60, .inl (Z 7))), (q 13, .inl (T 0, 8, .inl (rtE cd L 0 ((Z 13)) ((Z 15))).1.2.2)), (q 15, .inl (T 0, 3, .inl (rtE cd L 0 ((Z 13)) ((Z 15))).2.1.2))] := hD
  refine b_if_ne (b := rtB (rtE cd L 0 ((Z 13)) ((Z 15))) && decide ((rtE cd L 0 ((Z 13)) ((Z 15))).1.1 = L)) (tgt := 31) hx hb dX8_teach_22 (by decide) (fun c_3 => ?_) (fun c_4 => by exfalso; exact absurd hyes (by unfold tuB; rw [c_4]; decide))
  refine lv_aload_n hx hb dX8_teach_31 rfl (lv_at hl 0 rfl) ?_
  refine lv_iload_n hx hb dX8_teach_32 rfl (lv_at hl 1 rfl) ?_
  refine k_roV (As := [.int (nI mm)]) (rest := []) (wc := oX8 T q (sa (sa (sc (sc (sc Z 0 (nI 0)) 8 (nI (rtE cd L 0 ((Z 13)) ((Z 15))).1.1)) 13 (nI (rtE cd L 0 ((Z 13)) ((Z 15))).1.2.1)) 13 (rtE cd L 0 ((Z 13)) ((Z 15))).1.2.2) 15 (rtE cd L 0 ((Z 13)) ((Z 15))).2.1.2) g) (d := 3) (v := mWT (sa (sa (sc (sc (sc Z 0 (nI 0)) 8 (nI (rtE cd L 0 ((Z 13)) ((Z 15))).1.1)) 13 (nI (rtE cd L 0 ((Z 13)) ((Z 15))).1.2.1)) 13 (rtE cd L 0 ((Z 13)) ((Z 15))).1.2.2) 15 (rtE cd L 0 ((Z 13)) ((Z 15))).2.1.2) mm (rtE cd L 0 ((Z 13)) ((Z 15))).1.2.1) cx (c_X8_whyNotTaught l G T A q (sa (sa (sc (sc (sc Z 0 (nI 0)) 8 (nI (rtE cd L 0 ((Z 13)) ((Z 15))).1.1)) 13 (nI (rtE cd L 0 ((Z 13)) ((Z 15))).1.2.1)) 13 (rtE cd L 0 ((Z 13)) ((Z 15))).1.2.2) 15 (rtE cd L 0 ((Z 13)) ((Z 15))).2.1.2) g mm (rtE cd L 0 ((Z 13)) ((Z 15))).1.2.1 (by omega) (by first | assumption | rfl | omega) (by omega)) (cwV 1 hts gX8_teach_X8_whyNotTaught rfl rfl rfl (by decide +kernel) ⟨Nat.le_of_ble_eq_true rfl, Nat.le_of_ble_eq_true rfl⟩) hP hK (hE.kept hS.2.1) (va_recv hK hP (ci := 8) (q0 := 0) rfl rfl) rfl hl.1 rfl (Nat.le_of_ble_eq_true rfl) dX8_teach_33 ⟨Nat.le_of_ble_eq_true rfl, Nat.le_of_ble_eq_true rfl⟩ ?_
  refine lv_if_eq (tgt := 45) hx hb dX8_teach_36 (by decide) (fun c_5 => by exfalso; exact hno c_5) (fun c_6 => ?_)
  refine lv_aload_n hx hb dX8_teach_39 rfl (lv_at hl 0 rfl) ?_
  refine n_iconst hx hb 3 dX8_teach_40 (by decide) ?_
  refine k_rwV (As := [.int (nI 3)]) (rest := []) (wc := oX8 T q (sa (sa (sc (sc (sc Z 0 (nI 0)) 8 (nI (rtE cd L 0 ((Z 13)) ((Z 15))).1.1)) 13 (nI (rtE cd L 0 ((Z 13)) ((Z 15))).1.2.1)) 13 (rtE cd L 0 ((Z 13)) ((Z 15))).1.2.2) 15 (rtE cd L 0 ((Z 13)) ((Z 15))).2.1.2) g) (wr := []) (w1 := oX8 T q (sc (sa (sa (sc (sc (sc Z 0 (nI 0)) 8 (nI (rtE cd L 0 ((Z 13)) ((Z 15))).1.1)) 13 (nI (rtE cd L 0 ((Z 13)) ((Z 15))).1.2.1)) 13 (rtE cd L 0 ((Z 13)) ((Z 15))).1.2.2) 15 (rtE cd L 0 ((Z 13)) ((Z 15))).2.1.2) 0 (nI 3)) g) (d := 0) (mc := 0) (ms := 0) (v := nI 0) (isC := [0, 1, 2, 3, 4, 5, 6]) (isR := []) cx (c_X8_fails l G T H.size q (sa (sa (sc (sc (sc Z 0 (nI 0)) 8 (nI (rtE cd L 0 ((Z 13)) ((Z 15))).1.1)) 13 (nI (rtE cd L 0 ((Z 13)) ((Z 15))).1.2.1)) 13 (rtE cd L 0 ((Z 13)) ((Z 15))).1.2.2) 15 (rtE cd L 0 ((Z 13)) ((Z 15))).2.1.2) g (nI 3) ) (cwV 1 hts gX8_teach_X8_fails rfl rfl rfl (by decide +kernel) ⟨Nat.le_of_ble_eq_true rfl, Nat.le_of_ble_eq_true rfl⟩) ⟨hP, hD, hS, hA, hE, hK, rfl, rfl, rfl, rfl, by decide⟩ (va_recv hK hP (ci := 8) (q0 := 0) rfl rfl) rfl hl.1 rfl (Nat.le_of_ble_eq_true rfl) dX8_teach_41 ⟨Nat.le_of_ble_eq_true rfl, Nat.le_of_ble_eq_true rfl⟩ (fun H locs hP hD hS hz => ?_)
  have hP : va_P G vwCl [(q 0, .inr (8, [.int (nI 3), .ref (q 2), .ref (q 3), .int (Z 0 3), .ref (q 5), .int (Z 0 5), .ref (q 7), .int (Z 0 7), .int (nI (rtE cd L 0 ((Z 13)) ((Z 15))).1.1), .int (Z 0 9), .int (Z 0 10), .int (Z 0 11), .ref (q 13), .int (nI (rtE cd L 0 ((Z 13)) ((Z 15))).1.2.1), .ref (q 15), .long g])), (q 2, .inl (T 0, 267, .inl (Z 2))), (q 3, .inl (T 0, 1602, .inl (Z 3))), (q 5, .inl (T 0, 267, .inl (Z 5))), (q 7, .inl (T 0, 60, .inl (Z 7))), (q 13, .inl (T 0, 8, .inl (rtE cd L 0 ((Z 13)) ((Z 15))).1.2.2)), (q 15, .inl (T 0, 3, .inl (rtE cd L 0 ((Z 13)) ((Z 15))).2.1.2))] H := hP
  have hD : va_D A [(q 0, .inr (8, [.int (nI 3), .ref (q 2), .ref (q 3), .int (Z 0 3), .ref (q 5), .int (Z 0 5), .ref (q 7), .int (Z 0 7), .int (nI (rtE cd L 0 ((Z 13)) ((Z 15))).1.1), .int (Z 0 9), .int (Z 0 10), .int (Z 0 11), .ref (q 13), .int (nI (rtE cd L 0 ((Z 13)) ((Z 15))).1.2.1), .ref (q 15), .long g])), (q 2, .inl (T 0, 267, .inl (Z 2))), (q 3, .inl (T 0, 1602, .inl (Z 3))), (q 5, .inl (T 0, 267, .inl (Z 5))), (q 7, .inl (T 0, 60, .inl (Z 7))), (q 13, .inl (T 0, 8, .inl (rtE cd L 0 ((Z 13)) ((Z 15))).1.2.2)), (q 15, .inl (T 0, 3, .inl (rtE cd L 0 ((Z 13)) ((Z 15))).2.1.2))] := hD
  subst hQ
  have e_7 : (nI 3) = nI 3 := (by first | rfl | simp [bI, c_1, c_3, c_6])
  have e_8 : nI (rtE cd L 0 ((Z 13)) ((Z 15))).1.1 = nI (rtE cd L 0 (Z 13) (Z 15)).1.1 := (by first | rfl | simp [bI, c_1, c_3, c_6])
  have e_9 : (rtE cd L 0 ((Z 13)) ((Z 15))).1.2.2 = (rtE cd L 0 (Z 13) (Z 15)).1.2.2 := (by first | rfl | simp [bI, c_1, c_3, c_6])
  have e_10 : nI (rtE cd L 0 ((Z 13)) ((Z 15))).1.2.1 = nI (rtE cd L 0 (Z 13) (Z 15)).1.2.1 := (by first | rfl | simp [bI, c_1, c_3, c_6])
  have e_11 : (rtE cd L 0 ((Z 13)) ((Z 15))).2.1.2 = (rtE cd L 0 (Z 13) (Z 15)).2.1.2 := (by first | rfl | simp [bI, c_1, c_3, c_6])
  rw [e_10, e_8, e_9, e_11, e_7] at hP hD
  have hP9 : va_P G vwCl (oX8 T q (sa (sa (sc (sc (sc Z 0 (nI 3)) 8 (nI (rtE cd L 0 (Z 13) (Z 15)).1.1)) 13 (nI (rtE cd L 0 (Z 13) (Z 15)).1.2.1)) 13 (rtE cd L 0 (Z 13) (Z 15)).1.2.2) 15 (rtE cd L 0 (Z 13) (Z 15)).2.1.2) g) H := hP
  have hD9 : va_D A (oX8 T q (sa (sa (sc (sc (sc Z 0 (nI 3)) 8 (nI (rtE cd L 0 (Z 13) (Z 15)).1.1)) 13 (nI (rtE cd L 0 (Z 13) (Z 15)).1.2.1)) 13 (rtE cd L 0 (Z 13) (Z 15)).1.2.2) 15 (rtE cd L 0 (Z 13) (Z 15)).2.1.2) g) := hD
  exact e_rwi hx hb hr hlocks hS (by first | rfl | simp [bI, c_1, c_3, c_6]) hP9 hD9 dX8_teach_44
set_option maxHeartbeats 4000000 in
set_option maxRecDepth 100000 in
theorem c_X8_teach (l : Launch) (G : va_G) (T : Nat → ClassId) (sz : Nat) (q : Nat → Nat) (Z : Nat → Nat → Int32) (g : Int64) (L : Nat) (cd : Nat → Nat) (mm : Nat) (sv : Nat) (hle : Z 0 7 = nI L) (hcd : ∀ i : Nat, i < L → Z 7 i = nI (cd i)) (hc127 : ∀ i : Nat, i < L → cd i < 127) (hL60 : L ≤ 60) (hm20 : mm < 20) (hsv : Z 0 3 = nI sv) (hsv6 : sv ≤ 6) (hyes : tuB cd L Z = true) (hno : mWT (tuZ cd L Z) mm (tuN cd L Z) = 0) : RWi l yX8_teach wsX8_teach 6 0 0 G T sz (oX8 T q Z g) [.ref (q 0), .int (nI mm)] (nI (tuN cd L Z)) (oX8 T q (sa (sa (sa (sa (sc (sc (sc (sc (sc Z 0 (nI 0)) 3 (nI (mSvN sv))) 7 (nI 0)) 8 (nI (rtE cd L 0 (Z 13) (Z 15)).1.1)) 13 (nI (rtE cd L 0 (Z 13) (Z 15)).1.2.1)) 2 (mTcF (Z 2) (rtE cd L 0 (Z 13) (Z 15)).1.2.2 mm (tuN cd L Z) 8)) 3 (mSvF (Z 3) (Z 2) sv)) 13 (rtE cd L 0 (Z 13) (Z 15)).1.2.2) 15 (rtE cd L 0 (Z 13) (Z 15)).2.1.2) g) := by
  refine Met.ofW (cc := cX8_teach) (maxL := 2) (ret := (some .int)) (by decide) rfl ?_
  intro p e s m args below meth c s₁ B hml hv
  obtain ⟨ha, hsz, hP, hK, hD0, hE0⟩ := hv
  have hx := B.exec
  have hb := B.bytes
  have hr := B.returns
  have hlocks := B.notSynchronized
  have hts := atoms_spec (ws := wsX8_teach) B.pre
  have hown : s.vm.findClass RX8 = some m.cls := findClass_of_methodNamed B.named
  have cx : CallFix p m c cX8_teach 2 s args wsX8_teach RX8 := ⟨hx, hb, hml, hown, hts⟩
  subst hsz
  have hD := hD0.self (sz := s.heap.size)
  generalize hAe : va_A (oX8 T q Z g) s.heap.size = A at hD hE0 ⊢
  have hE : gE A s s.heap := hE0
  have hA : ∀ q : Nat, s.heap.size ≤ q → A q := fun q h => by rw [← hAe]; exact Or.inr h
  have hS : va_S A s.heap s.heap [] := va_S.rf
  refine w_entry ha (Nat.le_of_ble_eq_true rfl) (fun ls hl => ?_)
  refine w_q (fun Q0 hQ => ?_)
  have lk28 := hts (.fieldLink RX8 28 "WhistleTunesModel" "thrown" "I") (by decide +kernel)
  have hinX8 : ∀ w ∈ wsX80, w ∈ wsX8_teach := by decide +kernel
  have lk53 := hts (.fieldLink RX8 53 "WhistleTunesModel" "length" "I") (by decide +kernel)
  have hl : lv_has ls 2 [(0, .ref (q 0)), (1, .int (nI mm))] := hl
  have hP : va_P G vwCl [(q 0, .inr (8, [.int (Z 0 0), .ref (q 2), .ref (q 3), .int (Z 0 3), .ref (q 5), .int (Z 0 5), .ref (q 7), .int (Z 0 7), .int (Z 0 8), .int (Z 0 9), .int (Z 0 10), .int (Z 0 11), .ref (q 13), .int (Z 0 13), .ref (q 15), .long g])), (q 2, .inl (T 0, 267, .inl (Z 2))), (q 3, .inl (T 0, 1602, .inl (Z 3))), (q 5, .inl (T 0, 267, .inl (Z 5))), (q 7, .inl (T 0, 60, .inl (Z 7))), (q 13, .inl (T 0, 8, .inl (Z 13))), (q 15, .inl (T 0, 3, .inl (Z 15)))] s.heap := hP
  have hD : va_D A [(q 0, .inr (8, [.int (Z 0 0), .ref (q 2), .ref (q 3), .int (Z 0 3), .ref (q 5), .int (Z 0 5), .ref (q 7), .int (Z 0 7), .int (Z 0 8), .int (Z 0 9), .int (Z 0 10), .int (Z 0 11), .ref (q 13), .int (Z 0 13), .ref (q 15), .long g])), (q 2, .inl (T 0, 267, .inl (Z 2))), (q 3, .inl (T 0, 1602, .inl (Z 3))), (q 5, .inl (T 0, 267, .inl (Z 5))), (q 7, .inl (T 0, 60, .inl (Z 7))), (q 13, .inl (T 0, 8, .inl (Z 13))), (q 15, .inl (T 0, 3, .inl (Z 15)))] := hD
  skip
  have htn := tuN_le cd L Z
  have hta := tuA_le cd L Z
  unfold tuN at htn
  refine w_h (fun H locs hHe hLe => ?_)
  have hP : va_P G vwCl [(q 0, .inr (8, [.int (Z 0 0), .ref (q 2), .ref (q 3), .int (Z 0 3), .ref (q 5), .int (Z 0 5), .ref (q 7), .int (Z 0 7), .int (Z 0 8), .int (Z 0 9), .int (Z 0 10), .int (Z 0 11), .ref (q 13), .int (Z 0 13), .ref (q 15), .long g])), (q 2, .inl (T 0, 267, .inl (Z 2))), (q 3, .inl (T 0, 1602, .inl (Z 3))), (q 5, .inl (T 0, 267, .inl (Z 5))), (q 7, .inl (T 0, 60, .inl (Z 7))), (q 13, .inl (T 0, 8, .inl (Z 13))), (q 15, .inl (T 0, 3, .inl (Z 15)))] H := by rw [hHe]; exact hP
  have hS : va_S A s.heap H locs := by rw [hHe, hLe]; exact hS
  refine lv_aload_n hx hb dX8_teach_0 rfl (lv_at hl 0 rfl) ?_
  refine n_iconst hx hb 0 dX8_teach_1 (by decide) ?_
  refine va_put (D := G) (ci := 8) (v := .int (nI 0)) (ty := .int) (C := RX8) (T := TX8) (N := 16) hx hb hts hinX8 tyX8 tyX8_ok nmX8 hown hK hP hD hS 0 rfl rfl 0 (by decide) lk28 (fun _ h9 => h9) rfl (by decide +kernel) rfl rfl (Nat.le_of_ble_eq_true rfl) dX8_teach_2 (fun H locs hP hD hS => ?_)
  have hP : va_P G vwCl [(q 0, .inr (8, [.int (nI 0), .ref (q 2), .ref (q 3), .int (Z 0 3), .ref (q 5), .int (Z 0 5), .ref (q 7), .int (Z 0 7), .int (Z 0 8), .int (Z 0 9), .int (Z 0 10), .int (Z 0 11), .ref (q 13), .int (Z 0 13), .ref (q 15), .long g])), (q 2, .inl (T 0, 267, .inl (Z 2))), (q 3, .inl (T 0, 1602, .inl (Z 3))), (q 5, .inl (T 0, 267, .inl (Z 5))), (q 7, .inl (T 0, 60, .inl (Z 7))), (q 13, .inl (T 0, 8, .inl (Z 13))), (q 15, .inl (T 0, 3, .inl (Z 15)))] H := hP
  have hD : va_D A [(q 0, .inr (8, [.int (nI 0), .ref (q 2), .ref (q 3), .int (Z 0 3), .ref (q 5), .int (Z 0 5), .ref (q 7), .int (Z 0 7), .int (Z 0 8), .int (Z 0 9), .int (Z 0 10), .int (Z 0 11), .ref (q 13), .int (Z 0 13), .ref (q 15), .long g])), (q 2, .inl (T 0, 267, .inl (Z 2))), (q 3, .inl (T 0, 1602, .inl (Z 3))), (q 5, .inl (T 0, 267, .inl (Z 5))), (q 7, .inl (T 0, 60, .inl (Z 7))), (q 13, .inl (T 0, 8, .inl (Z 13))), (q 15, .inl (T 0, 3, .inl (Z 15)))] := hD
  refine lv_iload_n hx hb dX8_teach_5 rfl (lv_at hl 1 rfl) ?_
  refine k_roS (As := [.int (nI mm)]) (rest := []) (wc := []) (d := 1) (v := bI (pWi (nI mm) (nI 0) (nI 19))) cx (c_X8_isMessage l G T A (nI mm) ) (va_cwS 1 hts gX8_teach_X8_isMessage rfl rfl rfl (by decide +kernel) ⟨Nat.le_of_ble_eq_true rfl, Nat.le_of_ble_eq_true rfl⟩) (hP.sub (ws' := []) [] rfl) hK (hE.kept hS.2.1) rfl hl.1 rfl (Nat.le_of_ble_eq_true rfl) dX8_teach_6 ⟨Nat.le_of_ble_eq_true rfl, Nat.le_of_ble_eq_true rfl⟩ ?_
  refine b_if_ne (b := pWi (nI mm) (nI 0) (nI 19)) (tgt := 18) hx hb dX8_teach_9 (by decide) (fun c_1 => ?_) (fun c_2 => by exfalso; rw [pWi_n (by omega) (by omega) (by decide)] at c_2; cases c_2)
  refine lv_aload_n hx hb dX8_teach_18 rfl (lv_at hl 0 rfl) ?_
  refine k_rwV (As := []) (rest := []) (wc := oX8 T q (sc Z 0 (nI 0)) g) (wr := []) (w1 := oX8 T q (sa (sa (sc (sc (sc Z 0 (nI 0)) 8 (nI (rtE cd L 0 ((sc Z 0 (nI 0)) 13) ((sc Z 0 (nI 0)) 15)).1.1)) 13 (nI (rtE cd L 0 ((sc Z 0 (nI 0)) 13) ((sc Z 0 (nI 0)) 15)).1.2.1)) 13 (rtE cd L 0 ((sc Z 0 (nI 0)) 13) ((sc Z 0 (nI 0)) 15)).1.2.2) 15 (rtE cd L 0 ((sc Z 0 (nI 0)) 13) ((sc Z 0 (nI 0)) 15)).2.1.2) g) (d := 3) (mc := 0) (ms := 0) (v := bI (rtB (rtE cd L 0 ((Z 13)) ((Z 15))) && decide ((rtE cd L 0 ((Z 13)) ((Z 15))).1.1 = L))) (isC := [0, 1, 2, 3, 4, 5, 6]) (isR := []) cx (c_X8_isTuneText l G T H.size q (sc Z 0 (nI 0)) g L cd (by first | assumption | rfl | omega) (by first | assumption | rfl | omega) (by omega) (by omega)) (cwV 0 hts gX8_teach_X8_isTuneText rfl rfl rfl (by decide +kernel) ⟨Nat.le_of_ble_eq_true rfl, Nat.le_of_ble_eq_true rfl⟩) ⟨hP, hD, hS, hA, hE, hK, rfl, rfl, rfl, rfl, by decide⟩ (va_recv hK hP (ci := 8) (q0 := 0) rfl rfl) rfl hl.1 rfl (Nat.le_of_ble_eq_true rfl) dX8_teach_19 ⟨Nat.le_of_ble_eq_true rfl, Nat.le_of_ble_eq_true rfl⟩ (fun H locs hP hD hS hz => ?_)
  have hP : va_P G vwCl [(q 0, .inr (8, [.int (nI 0), .ref (q 2), .ref (q 3), .int (Z 0 3), .ref (q 5), .int (Z 0 5), .ref (q 7), .int (Z 0 7), .int (nI (rtE cd L 0 ((Z 13)) ((Z 15))).1.1), .int (Z 0 9), .int (Z 0 10), .int (Z 0 11), .ref (q 13), .int (nI (rtE cd L 0 ((Z 13)) ((Z 15))).1.2.1), .ref (q 15), .long g])), (q 2, .inl (T 0, 267, .inl (Z 2))), (q 3, .inl (T 0, 1602, .inl (Z 3))), (q 5, .inl (T 0, 267, .inl (Z 5))), (q 7, .inl (T 0, 60, .inl (Z 7))), (q 13, .inl (T 0, 8, .inl (rtE cd L 0 ((Z 13)) ((Z 15))).1.2.2)), (q 15, .inl (T 0, 3, .inl (rtE cd L 0 ((Z 13)) ((Z 15))).2.1.2))] H := hP
  have hD : va_D A [(q 0, .inr (8, [.int (nI 0), .ref (q 2), .ref (q 3), .int (Z 0 3), .ref (q 5), .int (Z 0 5), .ref (q 7), .int (Z 0 7), .int (nI (rtE cd L 0 ((Z 13)) ((Z 15))).1.1), .int (Z 0 9), .int (Z 0 10), .int (Z 0 11), .ref (q 13), .int (nI (rtE cd L 0 ((Z 13)) ((Z 15))).1.2.1), .ref (q 15), .long g])), (q 2, .inl (T 0, 267, .inl (Z 2))), (q 3, .inl (T 0, 1602, .inl (Z 3))), (q 5, .inl (T 0, 267, .inl (Z 5))), (q 7, .inl (T 0, 60, .inl (Z 7))), (q 13, .inl (T 0, 8, .inl (rtE cd L 0 ((Z 13)) ((Z 15))).1.2.2)), (q 15, .inl (T 0, 3, .inl (rtE cd L 0 ((Z 13)) ((Z 15))).2.1.2))] := hD
  refine b_if_ne (b := rtB (rtE cd L 0 ((Z 13)) ((Z 15))) && decide ((rtE cd L 0 ((Z 13)) ((Z 15))).1.1 = L)) (tgt := 31) hx hb dX8_teach_22 (by decide) (fun c_3 => ?_) (fun c_4 => by exfalso; exact absurd hyes (by unfold tuB; rw [c_4]; decide))
  refine lv_aload_n hx hb dX8_teach_31 rfl (lv_at hl 0 rfl) ?_
  refine lv_iload_n hx hb dX8_teach_32 rfl (lv_at hl 1 rfl) ?_
  refine k_roV (As := [.int (nI mm)]) (rest := []) (wc := oX8 T q (sa (sa (sc (sc (sc Z 0 (nI 0)) 8 (nI (rtE cd L 0 ((Z 13)) ((Z 15))).1.1)) 13 (nI (rtE cd L 0 ((Z 13)) ((Z 15))).1.2.1)) 13 (rtE cd L 0 ((Z 13)) ((Z 15))).1.2.2) 15 (rtE cd L 0 ((Z 13)) ((Z 15))).2.1.2) g) (d := 3) (v := mWT (sa (sa (sc (sc (sc Z 0 (nI 0)) 8 (nI (rtE cd L 0 ((Z 13)) ((Z 15))).1.1)) 13 (nI (rtE cd L 0 ((Z 13)) ((Z 15))).1.2.1)) 13 (rtE cd L 0 ((Z 13)) ((Z 15))).1.2.2) 15 (rtE cd L 0 ((Z 13)) ((Z 15))).2.1.2) mm (rtE cd L 0 ((Z 13)) ((Z 15))).1.2.1) cx (c_X8_whyNotTaught l G T A q (sa (sa (sc (sc (sc Z 0 (nI 0)) 8 (nI (rtE cd L 0 ((Z 13)) ((Z 15))).1.1)) 13 (nI (rtE cd L 0 ((Z 13)) ((Z 15))).1.2.1)) 13 (rtE cd L 0 ((Z 13)) ((Z 15))).1.2.2) 15 (rtE cd L 0 ((Z 13)) ((Z 15))).2.1.2) g mm (rtE cd L 0 ((Z 13)) ((Z 15))).1.2.1 (by omega) (by first | assumption | rfl | omega) (by omega)) (cwV 1 hts gX8_teach_X8_whyNotTaught rfl rfl rfl (by decide +kernel) ⟨Nat.le_of_ble_eq_true rfl, Nat.le_of_ble_eq_true rfl⟩) hP hK (hE.kept hS.2.1) (va_recv hK hP (ci := 8) (q0 := 0) rfl rfl) rfl hl.1 rfl (Nat.le_of_ble_eq_true rfl) dX8_teach_33 ⟨Nat.le_of_ble_eq_true rfl, Nat.le_of_ble_eq_true rfl⟩ ?_
  refine lv_if_eq (tgt := 45) hx hb dX8_teach_36 (by decide) (fun c_5 => ?_) (fun c_6 => by exfalso; exact c_6 hno)
  refine lv_aload_n hx hb dX8_teach_45 rfl (lv_at hl 0 rfl) ?_
  refine k_rvV (As := []) (rest := []) (wc := oX8 T q (sa (sa (sc (sc (sc Z 0 (nI 0)) 8 (nI (rtE cd L 0 ((Z 13)) ((Z 15))).1.1)) 13 (nI (rtE cd L 0 ((Z 13)) ((Z 15))).1.2.1)) 13 (rtE cd L 0 ((Z 13)) ((Z 15))).1.2.2) 15 (rtE cd L 0 ((Z 13)) ((Z 15))).2.1.2) g) (wr := []) (w1 := oX8 T q (sa (sc (sa (sa (sc (sc (sc Z 0 (nI 0)) 8 (nI (rtE cd L 0 ((Z 13)) ((Z 15))).1.1)) 13 (nI (rtE cd L 0 ((Z 13)) ((Z 15))).1.2.1)) 13 (rtE cd L 0 ((Z 13)) ((Z 15))).1.2.2) 15 (rtE cd L 0 ((Z 13)) ((Z 15))).2.1.2) 3 (nI (mSvN sv))) 3 (mSvF ((sa (sa (sc (sc (sc Z 0 (nI 0)) 8 (nI (rtE cd L 0 ((Z 13)) ((Z 15))).1.1)) 13 (nI (rtE cd L 0 ((Z 13)) ((Z 15))).1.2.1)) 13 (rtE cd L 0 ((Z 13)) ((Z 15))).1.2.2) 15 (rtE cd L 0 ((Z 13)) ((Z 15))).2.1.2) 3) ((sa (sa (sc (sc (sc Z 0 (nI 0)) 8 (nI (rtE cd L 0 ((Z 13)) ((Z 15))).1.1)) 13 (nI (rtE cd L 0 ((Z 13)) ((Z 15))).1.2.1)) 13 (rtE cd L 0 ((Z 13)) ((Z 15))).1.2.2) 15 (rtE cd L 0 ((Z 13)) ((Z 15))).2.1.2) 2) sv)) g) (d := 0) (mc := 0) (ms := 0) (isC := [0, 1, 2, 3, 4, 5, 6]) (isR := []) cx (c_X8_save l G T H.size q (sa (sa (sc (sc (sc Z 0 (nI 0)) 8 (nI (rtE cd L 0 ((Z 13)) ((Z 15))).1.1)) 13 (nI (rtE cd L 0 ((Z 13)) ((Z 15))).1.2.1)) 13 (rtE cd L 0 ((Z 13)) ((Z 15))).1.2.2) 15 (rtE cd L 0 ((Z 13)) ((Z 15))).2.1.2) g sv (by first | assumption | rfl | omega) (by omega)) (cwV 0 hts gX8_teach_X8_save rfl rfl rfl (by decide +kernel) ⟨Nat.le_of_ble_eq_true rfl, Nat.le_of_ble_eq_true rfl⟩) ⟨hP, hD, hS, hA, hE, hK, rfl, rfl, rfl, rfl, by decide⟩ (va_recv hK hP (ci := 8) (q0 := 0) rfl rfl) rfl hl.1 rfl (Nat.le_of_ble_eq_true rfl) dX8_teach_46 ⟨Nat.le_of_ble_eq_true rfl, Nat.le_of_ble_eq_true rfl⟩ (fun H locs hP hD hS hz => ?_)
  have hP : va_P G vwCl [(q 0, .inr (8, [.int (nI 0), .ref (q 2), .ref (q 3), .int (nI (mSvN sv)), .ref (q 5), .int (Z 0 5), .ref (q 7), .int (Z 0 7), .int (nI (rtE cd L 0 ((Z 13)) ((Z 15))).1.1), .int (Z 0 9), .int (Z 0 10), .int (Z 0 11), .ref (q 13), .int (nI (rtE cd L 0 ((Z 13)) ((Z 15))).1.2.1), .ref (q 15), .long g])), (q 2, .inl (T 0, 267, .inl (Z 2))), (q 3, .inl (T 0, 1602, .inl (mSvF ((Z 3)) ((Z 2)) sv))), (q 5, .inl (T 0, 267, .inl (Z 5))), (q 7, .inl (T 0, 60, .inl (Z 7))), (q 13, .inl (T 0, 8, .inl (rtE cd L 0 ((Z 13)) ((Z 15))).1.2.2)), (q 15, .inl (T 0, 3, .inl (rtE cd L 0 ((Z 13)) ((Z 15))).2.1.2))] H := hP
  have hD : va_D A [(q 0, .inr (8, [.int (nI 0), .ref (q 2), .ref (q 3), .int (nI (mSvN sv)), .ref (q 5), .int (Z 0 5), .ref (q 7), .int (Z 0 7), .int (nI (rtE cd L 0 ((Z 13)) ((Z 15))).1.1), .int (Z 0 9), .int (Z 0 10), .int (Z 0 11), .ref (q 13), .int (nI (rtE cd L 0 ((Z 13)) ((Z 15))).1.2.1), .ref (q 15), .long g])), (q 2, .inl (T 0, 267, .inl (Z 2))), (q 3, .inl (T 0, 1602, .inl (mSvF ((Z 3)) ((Z 2)) sv))), (q 5, .inl (T 0, 267, .inl (Z 5))), (q 7, .inl (T 0, 60, .inl (Z 7))), (q 13, .inl (T 0, 8, .inl (rtE cd L 0 ((Z 13)) ((Z 15))).1.2.2)), (q 15, .inl (T 0, 3, .inl (rtE cd L 0 ((Z 13)) ((Z 15))).2.1.2))] := hD
  refine lv_aload_n hx hb dX8_teach_49 rfl (lv_at hl 0 rfl) ?_
  refine n_iconst hx hb 0 dX8_teach_50 (by decide) ?_
  refine va_put (D := G) (ci := 8) (v := .int (nI 0)) (ty := .int) (C := RX8) (T := TX8) (N := 16) hx hb hts hinX8 tyX8 tyX8_ok nmX8 hown hK hP hD hS 0 rfl rfl 7 (by decide) lk53 (fun _ h9 => h9) rfl (by decide +kernel) rfl rfl (Nat.le_of_ble_eq_true rfl) dX8_teach_51 (fun H locs hP hD hS => ?_)
  have hP : va_P G vwCl [(q 0, .inr (8, [.int (nI 0), .ref (q 2), .ref (q 3), .int (nI (mSvN sv)), .ref (q 5), .int (Z 0 5), .ref (q 7), .int (nI 0), .int (nI (rtE cd L 0 ((Z 13)) ((Z 15))).1.1), .int (Z 0 9), .int (Z 0 10), .int (Z 0 11), .ref (q 13), .int (nI (rtE cd L 0 ((Z 13)) ((Z 15))).1.2.1), .ref (q 15), .long g])), (q 2, .inl (T 0, 267, .inl (Z 2))), (q 3, .inl (T 0, 1602, .inl (mSvF ((Z 3)) ((Z 2)) sv))), (q 5, .inl (T 0, 267, .inl (Z 5))), (q 7, .inl (T 0, 60, .inl (Z 7))), (q 13, .inl (T 0, 8, .inl (rtE cd L 0 ((Z 13)) ((Z 15))).1.2.2)), (q 15, .inl (T 0, 3, .inl (rtE cd L 0 ((Z 13)) ((Z 15))).2.1.2))] H := hP
  have hD : va_D A [(q 0, .inr (8, [.int (nI 0), .ref (q 2), .ref (q 3), .int (nI (mSvN sv)), .ref (q 5), .int (Z 0 5), .ref (q 7), .int (nI 0), .int (nI (rtE cd L 0 ((Z 13)) ((Z 15))).1.1), .int (Z 0 9), .int (Z 0 10), .int (Z 0 11), .ref (q 13), .int (nI (rtE cd L 0 ((Z 13)) ((Z 15))).1.2.1), .ref (q 15), .long g])), (q 2, .inl (T 0, 267, .inl (Z 2))), (q 3, .inl (T 0, 1602, .inl (mSvF ((Z 3)) ((Z 2)) sv))), (q 5, .inl (T 0, 267, .inl (Z 5))), (q 7, .inl (T 0, 60, .inl (Z 7))), (q 13, .inl (T 0, 8, .inl (rtE cd L 0 ((Z 13)) ((Z 15))).1.2.2)), (q 15, .inl (T 0, 3, .inl (rtE cd L 0 ((Z 13)) ((Z 15))).2.1.2))] := hD
  refine lv_aload_n hx hb dX8_teach_54 rfl (lv_at hl 0 rfl) ?_
  refine lv_iload_n hx hb dX8_teach_55 rfl (lv_at hl 1 rfl) ?_
  refine k_rwV (As := [.int (nI mm)]) (rest := []) (wc := oX8 T q (sa (sa (sa (sc (sc (sc (sc (sc Z 0 (nI 0)) 3 (nI (mSvN sv))) 7 (nI 0)) 8 (nI (rtE cd L 0 ((Z 13)) ((Z 15))).1.1)) 13 (nI (rtE cd L 0 ((Z 13)) ((Z 15))).1.2.1)) 3 (mSvF ((Z 3)) ((Z 2)) sv)) 13 (rtE cd L 0 ((Z 13)) ((Z 15))).1.2.2) 15 (rtE cd L 0 ((Z 13)) ((Z 15))).2.1.2) g) (wr := []) (w1 := oX8 T q (sa (sa (sa (sa (sc (sc (sc (sc (sc Z 0 (nI 0)) 3 (nI (mSvN sv))) 7 (nI 0)) 8 (nI (rtE cd L 0 ((Z 13)) ((Z 15))).1.1)) 13 (nI (rtE cd L 0 ((Z 13)) ((Z 15))).1.2.1)) 3 (mSvF ((Z 3)) ((Z 2)) sv)) 13 (rtE cd L 0 ((Z 13)) ((Z 15))).1.2.2) 15 (rtE cd L 0 ((Z 13)) ((Z 15))).2.1.2) 2 (mTcF ((sa (sa (sa (sc (sc (sc (sc (sc Z 0 (nI 0)) 3 (nI (mSvN sv))) 7 (nI 0)) 8 (nI (rtE cd L 0 ((Z 13)) ((Z 15))).1.1)) 13 (nI (rtE cd L 0 ((Z 13)) ((Z 15))).1.2.1)) 3 (mSvF ((Z 3)) ((Z 2)) sv)) 13 (rtE cd L 0 ((Z 13)) ((Z 15))).1.2.2) 15 (rtE cd L 0 ((Z 13)) ((Z 15))).2.1.2) 2) ((sa (sa (sa (sc (sc (sc (sc (sc Z 0 (nI 0)) 3 (nI (mSvN sv))) 7 (nI 0)) 8 (nI (rtE cd L 0 ((Z 13)) ((Z 15))).1.1)) 13 (nI (rtE cd L 0 ((Z 13)) ((Z 15))).1.2.1)) 3 (mSvF ((Z 3)) ((Z 2)) sv)) 13 (rtE cd L 0 ((Z 13)) ((Z 15))).1.2.2) 15 (rtE cd L 0 ((Z 13)) ((Z 15))).2.1.2) 13) mm (rtE cd L 0 ((Z 13)) ((Z 15))).1.2.1 8)) g) (d := 1) (mc := 0) (ms := 0) (v := nI (rtE cd L 0 ((Z 13)) ((Z 15))).1.2.1) (isC := [0, 1, 2, 3, 4, 5, 6]) (isR := []) cx (c_X8_teaches l G T H.size q (sa (sa (sa (sc (sc (sc (sc (sc Z 0 (nI 0)) 3 (nI (mSvN sv))) 7 (nI 0)) 8 (nI (rtE cd L 0 ((Z 13)) ((Z 15))).1.1)) 13 (nI (rtE cd L 0 ((Z 13)) ((Z 15))).1.2.1)) 3 (mSvF ((Z 3)) ((Z 2)) sv)) 13 (rtE cd L 0 ((Z 13)) ((Z 15))).1.2.2) 15 (rtE cd L 0 ((Z 13)) ((Z 15))).2.1.2) g mm (rtE cd L 0 ((Z 13)) ((Z 15))).1.2.1 (by omega) (by first | assumption | rfl | omega) (by omega)) (cwV 1 hts gX8_teach_X8_teaches rfl rfl rfl (by decide +kernel) ⟨Nat.le_of_ble_eq_true rfl, Nat.le_of_ble_eq_true rfl⟩) ⟨hP, hD, hS, hA, hE, hK, rfl, rfl, rfl, rfl, by decide⟩ (va_recv hK hP (ci := 8) (q0 := 0) rfl rfl) rfl hl.1 rfl (Nat.le_of_ble_eq_true rfl) dX8_teach_56 ⟨Nat.le_of_ble_eq_true rfl, Nat.le_of_ble_eq_true rfl⟩ (fun H locs hP hD hS hz => ?_)
  have hP : va_P G vwCl [(q 0, .inr (8, [.int (nI 0), .ref (q 2), .ref (q 3), .int (nI (mSvN sv)), .ref (q 5), .int (Z 0 5), .ref (q 7), .int (nI 0), .int (nI (rtE cd L 0 ((Z 13)) ((Z 15))).1.1), .int (Z 0 9), .int (Z 0 10), .int (Z 0 11), .ref (q 13), .int (nI (rtE cd L 0 ((Z 13)) ((Z 15))).1.2.1), .ref (q 15), .long g])), (q 2, .inl (T 0, 267, .inl (mTcF ((Z 2)) ((rtE cd L 0 ((Z 13)) ((Z 15))).1.2.2) mm (rtE cd L 0 ((Z 13)) ((Z 15))).1.2.1 8))), (q 3, .inl (T 0, 1602, .inl (mSvF ((Z 3)) ((Z 2)) sv))), (q 5, .inl (T 0, 267, .inl (Z 5))), (q 7, .inl (T 0, 60, .inl (Z 7))), (q 13, .inl (T 0, 8, .inl (rtE cd L 0 ((Z 13)) ((Z 15))).1.2.2)), (q 15, .inl (T 0, 3, .inl (rtE cd L 0 ((Z 13)) ((Z 15))).2.1.2))] H := hP
  have hD : va_D A [(q 0, .inr (8, [.int (nI 0), .ref (q 2), .ref (q 3), .int (nI (mSvN sv)), .ref (q 5), .int (Z 0 5), .ref (q 7), .int (nI 0), .int (nI (rtE cd L 0 ((Z 13)) ((Z 15))).1.1), .int (Z 0 9), .int (Z 0 10), .int (Z 0 11), .ref (q 13), .int (nI (rtE cd L 0 ((Z 13)) ((Z 15))).1.2.1), .ref (q 15), .long g])), (q 2, .inl (T 0, 267, .inl (mTcF ((Z 2)) ((rtE cd L 0 ((Z 13)) ((Z 15))).1.2.2) mm (rtE cd L 0 ((Z 13)) ((Z 15))).1.2.1 8))), (q 3, .inl (T 0, 1602, .inl (mSvF ((Z 3)) ((Z 2)) sv))), (q 5, .inl (T 0, 267, .inl (Z 5))), (q 7, .inl (T 0, 60, .inl (Z 7))), (q 13, .inl (T 0, 8, .inl (rtE cd L 0 ((Z 13)) ((Z 15))).1.2.2)), (q 15, .inl (T 0, 3, .inl (rtE cd L 0 ((Z 13)) ((Z 15))).2.1.2))] := hD
  subst hQ
  have e_7 : (mTcF ((Z 2)) ((rtE cd L 0 ((Z 13)) ((Z 15))).1.2.2) mm (rtE cd L 0 ((Z 13)) ((Z 15))).1.2.1 8) = mTcF (Z 2) (rtE cd L 0 (Z 13) (Z 15)).1.2.2 mm (tuN cd L Z) 8 := rfl
  have e_8 : (mSvF ((Z 3)) ((Z 2)) sv) = mSvF (Z 3) (Z 2) sv := (by first | rfl | simp [bI, c_1, c_3, c_5])
  have e_9 : nI (rtE cd L 0 ((Z 13)) ((Z 15))).1.1 = nI (rtE cd L 0 (Z 13) (Z 15)).1.1 := (by first | rfl | simp [bI, c_1, c_3, c_5])
  have e_10 : (rtE cd L 0 ((Z 13)) ((Z 15))).1.2.2 = (rtE cd L 0 (Z 13) (Z 15)).1.2.2 := (by first | rfl | simp [bI, c_1, c_3, c_5])
  have e_11 : nI (rtE cd L 0 ((Z 13)) ((Z 15))).1.2.1 = nI (rtE cd L 0 (Z 13) (Z 15)).1.2.1 := (by first | rfl | simp [bI, c_1, c_3, c_5])
  have e_12 : (rtE cd L 0 ((Z 13)) ((Z 15))).2.1.2 = (rtE cd L 0 (Z 13) (Z 15)).2.1.2 := (by first | rfl | simp [bI, c_1, c_3, c_5])
  rw [e_7, e_11, e_9, e_10, e_12, e_8] at hP hD
  have hP9 : va_P G vwCl (oX8 T q (sa (sa (sa (sa (sc (sc (sc (sc (sc Z 0 (nI 0)) 3 (nI (mSvN sv))) 7 (nI 0)) 8 (nI (rtE cd L 0 (Z 13) (Z 15)).1.1)) 13 (nI (rtE cd L 0 (Z 13) (Z 15)).1.2.1)) 2 (mTcF (Z 2) (rtE cd L 0 (Z 13) (Z 15)).1.2.2 mm (tuN cd L Z) 8)) 3 (mSvF (Z 3) (Z 2) sv)) 13 (rtE cd L 0 (Z 13) (Z 15)).1.2.2) 15 (rtE cd L 0 (Z 13) (Z 15)).2.1.2) g) H := hP
  have hD9 : va_D A (oX8 T q (sa (sa (sa (sa (sc (sc (sc (sc (sc Z 0 (nI 0)) 3 (nI (mSvN sv))) 7 (nI 0)) 8 (nI (rtE cd L 0 (Z 13) (Z 15)).1.1)) 13 (nI (rtE cd L 0 (Z 13) (Z 15)).1.2.1)) 2 (mTcF (Z 2) (rtE cd L 0 (Z 13) (Z 15)).1.2.2 mm (tuN cd L Z) 8)) 3 (mSvF (Z 3) (Z 2) sv)) 13 (rtE cd L 0 (Z 13) (Z 15)).1.2.2) 15 (rtE cd L 0 (Z 13) (Z 15)).2.1.2) g) := hD
  exact e_rwi hx hb hr hlocks hS rfl hP9 hD9 dX8_teach_59
set_option maxHeartbeats 4000000 in
set_option maxRecDepth 100000 in
theorem c_X8_forget (l : Launch) (G : va_G) (T : Nat → ClassId) (sz : Nat) (q : Nat → Nat) (Z : Nat → Nat → Int32) (g : Int64) (mm : Nat) (sv : Nat) (hm20 : mm < 20) (hsv : Z 0 3 = nI sv) (hsv6 : sv ≤ 6) : RWi l yX8_forget wsX8_forget 6 0 0 G T sz (oX8 T q Z g) [.ref (q 0), .int (nI mm)] (nI 0 + Z 2 (47 + 11 * mm)) (oX8 T q (sa (sa (sc (sc (sc Z 0 (nI 0)) 3 (nI (mSvN sv))) 13 (nI 0)) 2 (mTcF (Z 2) (Z 13) mm 0 8)) 3 (mSvF (Z 3) (Z 2) sv)) g) := by
  refine Met.ofW (cc := cX8_forget) (maxL := 3) (ret := (some .int)) (by decide) rfl ?_
  intro p e s m args below meth c s₁ B hml hv
  obtain ⟨ha, hsz, hP, hK, hD0, hE0⟩ := hv
  have hx := B.exec
  have hb := B.bytes
  have hr := B.returns
  have hlocks := B.notSynchronized
  have hts := atoms_spec (ws := wsX8_forget) B.pre
  have hown : s.vm.findClass RX8 = some m.cls := findClass_of_methodNamed B.named
  have cx : CallFix p m c cX8_forget 3 s args wsX8_forget RX8 := ⟨hx, hb, hml, hown, hts⟩
  subst hsz
  have hD := hD0.self (sz := s.heap.size)
  generalize hAe : va_A (oX8 T q Z g) s.heap.size = A at hD hE0 ⊢
  have hE : gE A s s.heap := hE0
  have hA : ∀ q : Nat, s.heap.size ≤ q → A q := fun q h => by rw [← hAe]; exact Or.inr h
  have hS : va_S A s.heap s.heap [] := va_S.rf
  refine w_entry ha (Nat.le_of_ble_eq_true rfl) (fun ls hl => ?_)
  refine w_q (fun Q0 hQ => ?_)
  have lk28 := hts (.fieldLink RX8 28 "WhistleTunesModel" "thrown" "I") (by decide +kernel)
  have hinX8 : ∀ w ∈ wsX80, w ∈ wsX8_forget := by decide +kernel
  have lk60 := hts (.fieldLink RX8 60 "WhistleTunesModel" "many" "I") (by decide +kernel)
  have hl : lv_has ls 3 [(0, .ref (q 0)), (1, .int (nI mm))] := hl
  have hP : va_P G vwCl [(q 0, .inr (8, [.int (Z 0 0), .ref (q 2), .ref (q 3), .int (Z 0 3), .ref (q 5), .int (Z 0 5), .ref (q 7), .int (Z 0 7), .int (Z 0 8), .int (Z 0 9), .int (Z 0 10), .int (Z 0 11), .ref (q 13), .int (Z 0 13), .ref (q 15), .long g])), (q 2, .inl (T 0, 267, .inl (Z 2))), (q 3, .inl (T 0, 1602, .inl (Z 3))), (q 5, .inl (T 0, 267, .inl (Z 5))), (q 7, .inl (T 0, 60, .inl (Z 7))), (q 13, .inl (T 0, 8, .inl (Z 13))), (q 15, .inl (T 0, 3, .inl (Z 15)))] s.heap := hP
  have hD : va_D A [(q 0, .inr (8, [.int (Z 0 0), .ref (q 2), .ref (q 3), .int (Z 0 3), .ref (q 5), .int (Z 0 5), .ref (q 7), .int (Z 0 7), .int (Z 0 8), .int (Z 0 9), .int (Z 0 10), .int (Z 0 11), .ref (q 13), .int (Z 0 13), .ref (q 15), .long g])), (q 2, .inl (T 0, 267, .inl (Z 2))), (q 3, .inl (T 0, 1602, .inl (Z 3))), (q 5, .inl (T 0, 267, .inl (Z 5))), (q 7, .inl (T 0, 60, .inl (Z 7))), (q 13, .inl (T 0, 8, .inl (Z 13))), (q 15, .inl (T 0, 3, .inl (Z 15)))] := hD
  skip
  refine w_h (fun H locs hHe hLe => ?_)
  have hP : va_P G vwCl [(q 0, .inr (8, [.int (Z 0 0), .ref (q 2), .ref (q 3), .int (Z 0 3), .ref (q 5), .int (Z 0 5), .ref (q 7), .int (Z 0 7), .int (Z 0 8), .int (Z 0 9), .int (Z 0 10), .int (Z 0 11), .ref (q 13), .int (Z 0 13), .ref (q 15), .long g])), (q 2, .inl (T 0, 267, .inl (Z 2))), (q 3, .inl (T 0, 1602, .inl (Z 3))), (q 5, .inl (T 0, 267, .inl (Z 5))), (q 7, .inl (T 0, 60, .inl (Z 7))), (q 13, .inl (T 0, 8, .inl (Z 13))), (q 15, .inl (T 0, 3, .inl (Z 15)))] H := by rw [hHe]; exact hP
  have hS : va_S A s.heap H locs := by rw [hHe, hLe]; exact hS
  refine lv_aload_n hx hb dX8_forget_0 rfl (lv_at hl 0 rfl) ?_
  refine n_iconst hx hb 0 dX8_forget_1 (by decide) ?_
  refine va_put (D := G) (ci := 8) (v := .int (nI 0)) (ty := .int) (C := RX8) (T := TX8) (N := 16) hx hb hts hinX8 tyX8 tyX8_ok nmX8 hown hK hP hD hS 0 rfl rfl 0 (by decide) lk28 (fun _ h9 => h9) rfl (by decide +kernel) rfl rfl (Nat.le_of_ble_eq_true rfl) dX8_forget_2 (fun H locs hP hD hS => ?_)
  have hP : va_P G vwCl [(q 0, .inr (8, [.int (nI 0), .ref (q 2), .ref (q 3), .int (Z 0 3), .ref (q 5), .int (Z 0 5), .ref (q 7), .int (Z 0 7), .int (Z 0 8), .int (Z 0 9), .int (Z 0 10), .int (Z 0 11), .ref (q 13), .int (Z 0 13), .ref (q 15), .long g])), (q 2, .inl (T 0, 267, .inl (Z 2))), (q 3, .inl (T 0, 1602, .inl (Z 3))), (q 5, .inl (T 0, 267, .inl (Z 5))), (q 7, .inl (T 0, 60, .inl (Z 7))), (q 13, .inl (T 0, 8, .inl (Z 13))), (q 15, .inl (T 0, 3, .inl (Z 15)))] H := hP
  have hD : va_D A [(q 0, .inr (8, [.int (nI 0), .ref (q 2), .ref (q 3), .int (Z 0 3), .ref (q 5), .int (Z 0 5), .ref (q 7), .int (Z 0 7), .int (Z 0 8), .int (Z 0 9), .int (Z 0 10), .int (Z 0 11), .ref (q 13), .int (Z 0 13), .ref (q 15), .long g])), (q 2, .inl (T 0, 267, .inl (Z 2))), (q 3, .inl (T 0, 1602, .inl (Z 3))), (q 5, .inl (T 0, 267, .inl (Z 5))), (q 7, .inl (T 0, 60, .inl (Z 7))), (q 13, .inl (T 0, 8, .inl (Z 13))), (q 15, .inl (T 0, 3, .inl (Z 15)))] := hD
  refine lv_iload_n hx hb dX8_forget_5 rfl (lv_at hl 1 rfl) ?_
  refine k_roS (As := [.int (nI mm)]) (rest := []) (wc := []) (d := 1) (v := bI (pWi (nI mm) (nI 0) (nI 19))) cx (c_X8_isMessage l G T A (nI mm) ) (va_cwS 1 hts gX8_forget_X8_isMessage rfl rfl rfl (by decide +kernel) ⟨Nat.le_of_ble_eq_true rfl, Nat.le_of_ble_eq_true rfl⟩) (hP.sub (ws' := []) [] rfl) hK (hE.kept hS.2.1) rfl hl.1 rfl (Nat.le_of_ble_eq_true rfl) dX8_forget_6 ⟨Nat.le_of_ble_eq_true rfl, Nat.le_of_ble_eq_true rfl⟩ ?_
  refine b_if_ne (b := pWi (nI mm) (nI 0) (nI 19)) (tgt := 18) hx hb dX8_forget_9 (by decide) (fun c_1 => ?_) (fun c_2 => by exfalso; rw [pWi_n (by omega) (by omega) (by decide)] at c_2; cases c_2)
  refine lv_aload_n hx hb dX8_forget_18 rfl (lv_at hl 0 rfl) ?_
  refine k_rvV (As := []) (rest := []) (wc := oX8 T q (sc Z 0 (nI 0)) g) (wr := []) (w1 := oX8 T q (sa (sc (sc Z 0 (nI 0)) 3 (nI (mSvN sv))) 3 (mSvF ((sc Z 0 (nI 0)) 3) ((sc Z 0 (nI 0)) 2) sv)) g) (d := 0) (mc := 0) (ms := 0) (isC := [0, 1, 2, 3, 4, 5, 6]) (isR := []) cx (c_X8_save l G T H.size q (sc Z 0 (nI 0)) g sv (by first | assumption | rfl | omega) (by omega)) (cwV 0 hts gX8_forget_X8_save rfl rfl rfl (by decide +kernel) ⟨Nat.le_of_ble_eq_true rfl, Nat.le_of_ble_eq_true rfl⟩) ⟨hP, hD, hS, hA, hE, hK, rfl, rfl, rfl, rfl, by decide⟩ (va_recv hK hP (ci := 8) (q0 := 0) rfl rfl) rfl hl.1 rfl (Nat.le_of_ble_eq_true rfl) dX8_forget_19 ⟨Nat.le_of_ble_eq_true rfl, Nat.le_of_ble_eq_true rfl⟩ (fun H locs hP hD hS hz => ?_)
  have hP : va_P G vwCl [(q 0, .inr (8, [.int (nI 0), .ref (q 2), .ref (q 3), .int (nI (mSvN sv)), .ref (q 5), .int (Z 0 5), .ref (q 7), .int (Z 0 7), .int (Z 0 8), .int (Z 0 9), .int (Z 0 10), .int (Z 0 11), .ref (q 13), .int (Z 0 13), .ref (q 15), .long g])), (q 2, .inl (T 0, 267, .inl (Z 2))), (q 3, .inl (T 0, 1602, .inl (mSvF ((Z 3)) ((Z 2)) sv))), (q 5, .inl (T 0, 267, .inl (Z 5))), (q 7, .inl (T 0, 60, .inl (Z 7))), (q 13, .inl (T 0, 8, .inl (Z 13))), (q 15, .inl (T 0, 3, .inl (Z 15)))] H := hP
  have hD : va_D A [(q 0, .inr (8, [.int (nI 0), .ref (q 2), .ref (q 3), .int (nI (mSvN sv)), .ref (q 5), .int (Z 0 5), .ref (q 7), .int (Z 0 7), .int (Z 0 8), .int (Z 0 9), .int (Z 0 10), .int (Z 0 11), .ref (q 13), .int (Z 0 13), .ref (q 15), .long g])), (q 2, .inl (T 0, 267, .inl (Z 2))), (q 3, .inl (T 0, 1602, .inl (mSvF ((Z 3)) ((Z 2)) sv))), (q 5, .inl (T 0, 267, .inl (Z 5))), (q 7, .inl (T 0, 60, .inl (Z 7))), (q 13, .inl (T 0, 8, .inl (Z 13))), (q 15, .inl (T 0, 3, .inl (Z 15)))] := hD
  refine lv_aload_n hx hb dX8_forget_22 rfl (lv_at hl 0 rfl) ?_
  refine lv_iload_n hx hb dX8_forget_23 rfl (lv_at hl 1 rfl) ?_
  refine n_iconst hx hb 0 dX8_forget_24 (by decide) ?_
  refine k_roV (As := [.int (nI mm), .int (nI 0)]) (rest := []) (wc := oX8 T q (sa (sc (sc Z 0 (nI 0)) 3 (nI (mSvN sv))) 3 (mSvF ((Z 3)) ((Z 2)) sv)) g) (d := 0) (v := (Z 2) (47 + 11 * mm)) cx (c_X8_ofMessage l G T A q (sa (sc (sc Z 0 (nI 0)) 3 (nI (mSvN sv))) 3 (mSvF ((Z 3)) ((Z 2)) sv)) g mm 0 (by omega) (by omega)) (cwV 2 hts gX8_forget_X8_ofMessage rfl rfl rfl (by decide +kernel) ⟨Nat.le_of_ble_eq_true rfl, Nat.le_of_ble_eq_true rfl⟩) hP hK (hE.kept hS.2.1) (va_recv hK hP (ci := 8) (q0 := 0) rfl rfl) rfl hl.1 rfl (Nat.le_of_ble_eq_true rfl) dX8_forget_25 ⟨Nat.le_of_ble_eq_true rfl, Nat.le_of_ble_eq_true rfl⟩ ?_
  refine lv_istore_n (lv' := [(2, .int ((Z 2) (47 + 11 * mm))), (0, .ref (q 0)), (1, .int (nI mm))]) hx hb dX8_forget_28 rfl hl (by decide) rfl (fun ls hl => ?_)
  refine lv_aload_n hx hb dX8_forget_29 rfl (lv_at hl 1 rfl) ?_
  refine n_iconst hx hb 0 dX8_forget_30 (by decide) ?_
  refine va_put (D := G) (ci := 8) (v := .int (nI 0)) (ty := .int) (C := RX8) (T := TX8) (N := 16) hx hb hts hinX8 tyX8 tyX8_ok nmX8 hown hK hP hD hS 0 rfl rfl 13 (by decide) lk60 (fun _ h9 => h9) rfl (by decide +kernel) rfl rfl (Nat.le_of_ble_eq_true rfl) dX8_forget_31 (fun H locs hP hD hS => ?_)
  have hP : va_P G vwCl [(q 0, .inr (8, [.int (nI 0), .ref (q 2), .ref (q 3), .int (nI (mSvN sv)), .ref (q 5), .int (Z 0 5), .ref (q 7), .int (Z 0 7), .int (Z 0 8), .int (Z 0 9), .int (Z 0 10), .int (Z 0 11), .ref (q 13), .int (nI 0), .ref (q 15), .long g])), (q 2, .inl (T 0, 267, .inl (Z 2))), (q 3, .inl (T 0, 1602, .inl (mSvF ((Z 3)) ((Z 2)) sv))), (q 5, .inl (T 0, 267, .inl (Z 5))), (q 7, .inl (T 0, 60, .inl (Z 7))), (q 13, .inl (T 0, 8, .inl (Z 13))), (q 15, .inl (T 0, 3, .inl (Z 15)))] H := hP
  have hD : va_D A [(q 0, .inr (8, [.int (nI 0), .ref (q 2), .ref (q 3), .int (nI (mSvN sv)), .ref (q 5), .int (Z 0 5), .ref (q 7), .int (Z 0 7), .int (Z 0 8), .int (Z 0 9), .int (Z 0 10), .int (Z 0 11), .ref (q 13), .int (nI 0), .ref (q 15), .long g])), (q 2, .inl (T 0, 267, .inl (Z 2))), (q 3, .inl (T 0, 1602, .inl (mSvF ((Z 3)) ((Z 2)) sv))), (q 5, .inl (T 0, 267, .inl (Z 5))), (q 7, .inl (T 0, 60, .inl (Z 7))), (q 13, .inl (T 0, 8, .inl (Z 13))), (q 15, .inl (T 0, 3, .inl (Z 15)))] := hD
  refine lv_aload_n hx hb dX8_forget_34 rfl (lv_at hl 1 rfl) ?_
  refine lv_iload_n hx hb dX8_forget_35 rfl (lv_at hl 2 rfl) ?_
  refine k_rwV (As := [.int (nI mm)]) (rest := []) (wc := oX8 T q (sa (sc (sc (sc Z 0 (nI 0)) 3 (nI (mSvN sv))) 13 (nI 0)) 3 (mSvF ((Z 3)) ((Z 2)) sv)) g) (wr := []) (w1 := oX8 T q (sa (sa (sc (sc (sc Z 0 (nI 0)) 3 (nI (mSvN sv))) 13 (nI 0)) 3 (mSvF ((Z 3)) ((Z 2)) sv)) 2 (mTcF ((sa (sc (sc (sc Z 0 (nI 0)) 3 (nI (mSvN sv))) 13 (nI 0)) 3 (mSvF ((Z 3)) ((Z 2)) sv)) 2) ((sa (sc (sc (sc Z 0 (nI 0)) 3 (nI (mSvN sv))) 13 (nI 0)) 3 (mSvF ((Z 3)) ((Z 2)) sv)) 13) mm 0 8)) g) (d := 1) (mc := 0) (ms := 0) (v := nI 0) (isC := [0, 1, 2, 3, 4, 5, 6]) (isR := []) cx (c_X8_teaches l G T H.size q (sa (sc (sc (sc Z 0 (nI 0)) 3 (nI (mSvN sv))) 13 (nI 0)) 3 (mSvF ((Z 3)) ((Z 2)) sv)) g mm 0 (by omega) (by first | assumption | rfl | omega) (by omega)) (cwV 1 hts gX8_forget_X8_teaches rfl rfl rfl (by decide +kernel) ⟨Nat.le_of_ble_eq_true rfl, Nat.le_of_ble_eq_true rfl⟩) ⟨hP, hD, hS, hA, hE, hK, rfl, rfl, rfl, rfl, by decide⟩ (va_recv hK hP (ci := 8) (q0 := 0) rfl rfl) rfl hl.1 rfl (Nat.le_of_ble_eq_true rfl) dX8_forget_36 ⟨Nat.le_of_ble_eq_true rfl, Nat.le_of_ble_eq_true rfl⟩ (fun H locs hP hD hS hz => ?_)
  have hP : va_P G vwCl [(q 0, .inr (8, [.int (nI 0), .ref (q 2), .ref (q 3), .int (nI (mSvN sv)), .ref (q 5), .int (Z 0 5), .ref (q 7), .int (Z 0 7), .int (Z 0 8), .int (Z 0 9), .int (Z 0 10), .int (Z 0 11), .ref (q 13), .int (nI 0), .ref (q 15), .long g])), (q 2, .inl (T 0, 267, .inl (mTcF ((Z 2)) ((Z 13)) mm 0 8))), (q 3, .inl (T 0, 1602, .inl (mSvF ((Z 3)) ((Z 2)) sv))), (q 5, .inl (T 0, 267, .inl (Z 5))), (q 7, .inl (T 0, 60, .inl (Z 7))), (q 13, .inl (T 0, 8, .inl (Z 13))), (q 15, .inl (T 0, 3, .inl (Z 15)))] H := hP
  have hD : va_D A [(q 0, .inr (8, [.int (nI 0), .ref (q 2), .ref (q 3), .int (nI (mSvN sv)), .ref (q 5), .int (Z 0 5), .ref (q 7), .int (Z 0 7), .int (Z 0 8), .int (Z 0 9), .int (Z 0 10), .int (Z 0 11), .ref (q 13), .int (nI 0), .ref (q 15), .long g])), (q 2, .inl (T 0, 267, .inl (mTcF ((Z 2)) ((Z 13)) mm 0 8))), (q 3, .inl (T 0, 1602, .inl (mSvF ((Z 3)) ((Z 2)) sv))), (q 5, .inl (T 0, 267, .inl (Z 5))), (q 7, .inl (T 0, 60, .inl (Z 7))), (q 13, .inl (T 0, 8, .inl (Z 13))), (q 15, .inl (T 0, 3, .inl (Z 15)))] := hD
  refine lv_iload_n hx hb dX8_forget_39 rfl (lv_at hl 0 rfl) ?_
  refine lv_iadd hx hb dX8_forget_40 ?_
  subst hQ
  have e_3 : (mTcF ((Z 2)) ((Z 13)) mm 0 8) = mTcF (Z 2) (Z 13) mm 0 8 := (by first | rfl | simp [bI, c_1])
  have e_4 : (mSvF ((Z 3)) ((Z 2)) sv) = mSvF (Z 3) (Z 2) sv := (by first | rfl | simp [bI, c_1])
  rw [e_3, e_4] at hP hD
  have hP9 : va_P G vwCl (oX8 T q (sa (sa (sc (sc (sc Z 0 (nI 0)) 3 (nI (mSvN sv))) 13 (nI 0)) 2 (mTcF (Z 2) (Z 13) mm 0 8)) 3 (mSvF (Z 3) (Z 2) sv)) g) H := hP
  have hD9 : va_D A (oX8 T q (sa (sa (sc (sc (sc Z 0 (nI 0)) 3 (nI (mSvN sv))) 13 (nI 0)) 2 (mTcF (Z 2) (Z 13) mm 0 8)) 3 (mSvF (Z 3) (Z 2) sv)) g) := hD
  exact e_rwi hx hb hr hlocks hS (by first | rfl | simp [bI, c_1]) hP9 hD9 dX8_forget_41
set_option maxHeartbeats 4000000 in
set_option maxRecDepth 100000 in
theorem c_X8_key (l : Launch) (G : va_G) (T : Nat → ClassId) (sz : Nat) (q : Nat → Nat) (Z : Nat → Nat → Int32) (g : Int64) (x : Nat) (sv : Nat) (hx7 : x < 7) (hsv : Z 0 3 = nI sv) (hsv6 : sv ≤ 6) : RWi l yX8_key wsX8_key 6 0 0 G T sz (oX8 T q Z g) [.ref (q 0), .int (nI x)] (Z 2 1) (oX8 T q (sa (sa (sc (sc Z 0 (nI 0)) 3 (nI (mSvN sv))) 2 (upd (Z 2) 1 (nI x))) 3 (mSvF (Z 3) (Z 2) sv)) g) := by
  refine Met.ofW (cc := cX8_key) (maxL := 2) (ret := (some .int)) (by decide) rfl ?_
  intro p e s m args below meth c s₁ B hml hv
  obtain ⟨ha, hsz, hP, hK, hD0, hE0⟩ := hv
  have hx := B.exec
  have hb := B.bytes
  have hr := B.returns
  have hlocks := B.notSynchronized
  have hts := atoms_spec (ws := wsX8_key) B.pre
  have hown : s.vm.findClass RX8 = some m.cls := findClass_of_methodNamed B.named
  have cx : CallFix p m c cX8_key 2 s args wsX8_key RX8 := ⟨hx, hb, hml, hown, hts⟩
  subst hsz
  have hD := hD0.self (sz := s.heap.size)
  generalize hAe : va_A (oX8 T q Z g) s.heap.size = A at hD hE0 ⊢
  have hE : gE A s s.heap := hE0
  have hA : ∀ q : Nat, s.heap.size ≤ q → A q := fun q h => by rw [← hAe]; exact Or.inr h
  have hS : va_S A s.heap s.heap [] := va_S.rf
  refine w_entry ha (Nat.le_of_ble_eq_true rfl) (fun ls hl => ?_)
  refine w_q (fun Q0 hQ => ?_)
  have lk28 := hts (.fieldLink RX8 28 "WhistleTunesModel" "thrown" "I") (by decide +kernel)
  have hinX8 : ∀ w ∈ wsX80, w ∈ wsX8_key := by decide +kernel
  have hl : lv_has ls 2 [(0, .ref (q 0)), (1, .int (nI x))] := hl
  have hP : va_P G vwCl [(q 0, .inr (8, [.int (Z 0 0), .ref (q 2), .ref (q 3), .int (Z 0 3), .ref (q 5), .int (Z 0 5), .ref (q 7), .int (Z 0 7), .int (Z 0 8), .int (Z 0 9), .int (Z 0 10), .int (Z 0 11), .ref (q 13), .int (Z 0 13), .ref (q 15), .long g])), (q 2, .inl (T 0, 267, .inl (Z 2))), (q 3, .inl (T 0, 1602, .inl (Z 3))), (q 5, .inl (T 0, 267, .inl (Z 5))), (q 7, .inl (T 0, 60, .inl (Z 7))), (q 13, .inl (T 0, 8, .inl (Z 13))), (q 15, .inl (T 0, 3, .inl (Z 15)))] s.heap := hP
  have hD : va_D A [(q 0, .inr (8, [.int (Z 0 0), .ref (q 2), .ref (q 3), .int (Z 0 3), .ref (q 5), .int (Z 0 5), .ref (q 7), .int (Z 0 7), .int (Z 0 8), .int (Z 0 9), .int (Z 0 10), .int (Z 0 11), .ref (q 13), .int (Z 0 13), .ref (q 15), .long g])), (q 2, .inl (T 0, 267, .inl (Z 2))), (q 3, .inl (T 0, 1602, .inl (Z 3))), (q 5, .inl (T 0, 267, .inl (Z 5))), (q 7, .inl (T 0, 60, .inl (Z 7))), (q 13, .inl (T 0, 8, .inl (Z 13))), (q 15, .inl (T 0, 3, .inl (Z 15)))] := hD
  skip
  refine w_h (fun H locs hHe hLe => ?_)
  have hP : va_P G vwCl [(q 0, .inr (8, [.int (Z 0 0), .ref (q 2), .ref (q 3), .int (Z 0 3), .ref (q 5), .int (Z 0 5), .ref (q 7), .int (Z 0 7), .int (Z 0 8), .int (Z 0 9), .int (Z 0 10), .int (Z 0 11), .ref (q 13), .int (Z 0 13), .ref (q 15), .long g])), (q 2, .inl (T 0, 267, .inl (Z 2))), (q 3, .inl (T 0, 1602, .inl (Z 3))), (q 5, .inl (T 0, 267, .inl (Z 5))), (q 7, .inl (T 0, 60, .inl (Z 7))), (q 13, .inl (T 0, 8, .inl (Z 13))), (q 15, .inl (T 0, 3, .inl (Z 15)))] H := by rw [hHe]; exact hP
  have hS : va_S A s.heap H locs := by rw [hHe, hLe]; exact hS
  refine lv_aload_n hx hb dX8_key_0 rfl (lv_at hl 0 rfl) ?_
  refine n_iconst hx hb 0 dX8_key_1 (by decide) ?_
  refine va_put (D := G) (ci := 8) (v := .int (nI 0)) (ty := .int) (C := RX8) (T := TX8) (N := 16) hx hb hts hinX8 tyX8 tyX8_ok nmX8 hown hK hP hD hS 0 rfl rfl 0 (by decide) lk28 (fun _ h9 => h9) rfl (by decide +kernel) rfl rfl (Nat.le_of_ble_eq_true rfl) dX8_key_2 (fun H locs hP hD hS => ?_)
  have hP : va_P G vwCl [(q 0, .inr (8, [.int (nI 0), .ref (q 2), .ref (q 3), .int (Z 0 3), .ref (q 5), .int (Z 0 5), .ref (q 7), .int (Z 0 7), .int (Z 0 8), .int (Z 0 9), .int (Z 0 10), .int (Z 0 11), .ref (q 13), .int (Z 0 13), .ref (q 15), .long g])), (q 2, .inl (T 0, 267, .inl (Z 2))), (q 3, .inl (T 0, 1602, .inl (Z 3))), (q 5, .inl (T 0, 267, .inl (Z 5))), (q 7, .inl (T 0, 60, .inl (Z 7))), (q 13, .inl (T 0, 8, .inl (Z 13))), (q 15, .inl (T 0, 3, .inl (Z 15)))] H := hP
  have hD : va_D A [(q 0, .inr (8, [.int (nI 0), .ref (q 2), .ref (q 3), .int (Z 0 3), .ref (q 5), .int (Z 0 5), .ref (q 7), .int (Z 0 7), .int (Z 0 8), .int (Z 0 9), .int (Z 0 10), .int (Z 0 11), .ref (q 13), .int (Z 0 13), .ref (q 15), .long g])), (q 2, .inl (T 0, 267, .inl (Z 2))), (q 3, .inl (T 0, 1602, .inl (Z 3))), (q 5, .inl (T 0, 267, .inl (Z 5))), (q 7, .inl (T 0, 60, .inl (Z 7))), (q 13, .inl (T 0, 8, .inl (Z 13))), (q 15, .inl (T 0, 3, .inl (Z 15)))] := hD
  refine lv_iload_n hx hb dX8_key_5 rfl (lv_at hl 1 rfl) ?_
  refine k_roS (As := [.int (nI x)]) (rest := []) (wc := []) (d := 1) (v := bI (pWi (nI x) (nI 0) (nI 6))) cx (c_X8_isKey l G T A (nI x) ) (va_cwS 1 hts gX8_key_X8_isKey rfl rfl rfl (by decide +kernel) ⟨Nat.le_of_ble_eq_true rfl, Nat.le_of_ble_eq_true rfl⟩) (hP.sub (ws' := []) [] rfl) hK (hE.kept hS.2.1) rfl hl.1 rfl (Nat.le_of_ble_eq_true rfl) dX8_key_6 ⟨Nat.le_of_ble_eq_true rfl, Nat.le_of_ble_eq_true rfl⟩ ?_
  refine b_if_ne (b := pWi (nI x) (nI 0) (nI 6)) (tgt := 18) hx hb dX8_key_9 (by decide) (fun c_1 => ?_) (fun c_2 => by exfalso; rw [pWi_n (by omega) (by omega) (by decide)] at c_2; cases c_2)
  refine lv_aload_n hx hb dX8_key_18 rfl (lv_at hl 0 rfl) ?_
  refine k_rvV (As := []) (rest := []) (wc := oX8 T q (sc Z 0 (nI 0)) g) (wr := []) (w1 := oX8 T q (sa (sc (sc Z 0 (nI 0)) 3 (nI (mSvN sv))) 3 (mSvF ((sc Z 0 (nI 0)) 3) ((sc Z 0 (nI 0)) 2) sv)) g) (d := 0) (mc := 0) (ms := 0) (isC := [0, 1, 2, 3, 4, 5, 6]) (isR := []) cx (c_X8_save l G T H.size q (sc Z 0 (nI 0)) g sv (by first | assumption | rfl | omega) (by omega)) (cwV 0 hts gX8_key_X8_save rfl rfl rfl (by decide +kernel) ⟨Nat.le_of_ble_eq_true rfl, Nat.le_of_ble_eq_true rfl⟩) ⟨hP, hD, hS, hA, hE, hK, rfl, rfl, rfl, rfl, by decide⟩ (va_recv hK hP (ci := 8) (q0 := 0) rfl rfl) rfl hl.1 rfl (Nat.le_of_ble_eq_true rfl) dX8_key_19 ⟨Nat.le_of_ble_eq_true rfl, Nat.le_of_ble_eq_true rfl⟩ (fun H locs hP hD hS hz => ?_)
  have hP : va_P G vwCl [(q 0, .inr (8, [.int (nI 0), .ref (q 2), .ref (q 3), .int (nI (mSvN sv)), .ref (q 5), .int (Z 0 5), .ref (q 7), .int (Z 0 7), .int (Z 0 8), .int (Z 0 9), .int (Z 0 10), .int (Z 0 11), .ref (q 13), .int (Z 0 13), .ref (q 15), .long g])), (q 2, .inl (T 0, 267, .inl (Z 2))), (q 3, .inl (T 0, 1602, .inl (mSvF ((Z 3)) ((Z 2)) sv))), (q 5, .inl (T 0, 267, .inl (Z 5))), (q 7, .inl (T 0, 60, .inl (Z 7))), (q 13, .inl (T 0, 8, .inl (Z 13))), (q 15, .inl (T 0, 3, .inl (Z 15)))] H := hP
  have hD : va_D A [(q 0, .inr (8, [.int (nI 0), .ref (q 2), .ref (q 3), .int (nI (mSvN sv)), .ref (q 5), .int (Z 0 5), .ref (q 7), .int (Z 0 7), .int (Z 0 8), .int (Z 0 9), .int (Z 0 10), .int (Z 0 11), .ref (q 13), .int (Z 0 13), .ref (q 15), .long g])), (q 2, .inl (T 0, 267, .inl (Z 2))), (q 3, .inl (T 0, 1602, .inl (mSvF ((Z 3)) ((Z 2)) sv))), (q 5, .inl (T 0, 267, .inl (Z 5))), (q 7, .inl (T 0, 60, .inl (Z 7))), (q 13, .inl (T 0, 8, .inl (Z 13))), (q 15, .inl (T 0, 3, .inl (Z 15)))] := hD
  refine lv_aload_n hx hb dX8_key_22 rfl (lv_at hl 0 rfl) ?_
  refine lv_iload_n hx hb dX8_key_23 rfl (lv_at hl 1 rfl) ?_
  refine k_rwV (As := [.int (nI x)]) (rest := []) (wc := oX8 T q (sa (sc (sc Z 0 (nI 0)) 3 (nI (mSvN sv))) 3 (mSvF ((Z 3)) ((Z 2)) sv)) g) (wr := []) (w1 := oX8 T q (sa (sa (sc (sc Z 0 (nI 0)) 3 (nI (mSvN sv))) 3 (mSvF ((Z 3)) ((Z 2)) sv)) 2 (upd ((sa (sc (sc Z 0 (nI 0)) 3 (nI (mSvN sv))) 3 (mSvF ((Z 3)) ((Z 2)) sv)) 2) 1 (nI x))) g) (d := 0) (mc := 0) (ms := 0) (v := (Z 2) 1) (isC := [0, 1, 2, 3, 4, 5, 6]) (isR := []) cx (c_X8_changeKey l G T H.size q (sa (sc (sc Z 0 (nI 0)) 3 (nI (mSvN sv))) 3 (mSvF ((Z 3)) ((Z 2)) sv)) g (nI x) ) (cwV 1 hts gX8_key_X8_changeKey rfl rfl rfl (by decide +kernel) ⟨Nat.le_of_ble_eq_true rfl, Nat.le_of_ble_eq_true rfl⟩) ⟨hP, hD, hS, hA, hE, hK, rfl, rfl, rfl, rfl, by decide⟩ (va_recv hK hP (ci := 8) (q0 := 0) rfl rfl) rfl hl.1 rfl (Nat.le_of_ble_eq_true rfl) dX8_key_24 ⟨Nat.le_of_ble_eq_true rfl, Nat.le_of_ble_eq_true rfl⟩ (fun H locs hP hD hS hz => ?_)
  have hP : va_P G vwCl [(q 0, .inr (8, [.int (nI 0), .ref (q 2), .ref (q 3), .int (nI (mSvN sv)), .ref (q 5), .int (Z 0 5), .ref (q 7), .int (Z 0 7), .int (Z 0 8), .int (Z 0 9), .int (Z 0 10), .int (Z 0 11), .ref (q 13), .int (Z 0 13), .ref (q 15), .long g])), (q 2, .inl (T 0, 267, .inl (upd ((Z 2)) 1 (nI x)))), (q 3, .inl (T 0, 1602, .inl (mSvF ((Z 3)) ((Z 2)) sv))), (q 5, .inl (T 0, 267, .inl (Z 5))), (q 7, .inl (T 0, 60, .inl (Z 7))), (q 13, .inl (T 0, 8, .inl (Z 13))), (q 15, .inl (T 0, 3, .inl (Z 15)))] H := hP
  have hD : va_D A [(q 0, .inr (8, [.int (nI 0), .ref (q 2), .ref (q 3), .int (nI (mSvN sv)), .ref (q 5), .int (Z 0 5), .ref (q 7), .int (Z 0 7), .int (Z 0 8), .int (Z 0 9), .int (Z 0 10), .int (Z 0 11), .ref (q 13), .int (Z 0 13), .ref (q 15), .long g])), (q 2, .inl (T 0, 267, .inl (upd ((Z 2)) 1 (nI x)))), (q 3, .inl (T 0, 1602, .inl (mSvF ((Z 3)) ((Z 2)) sv))), (q 5, .inl (T 0, 267, .inl (Z 5))), (q 7, .inl (T 0, 60, .inl (Z 7))), (q 13, .inl (T 0, 8, .inl (Z 13))), (q 15, .inl (T 0, 3, .inl (Z 15)))] := hD
  subst hQ
  have e_3 : (upd ((Z 2)) 1 (nI x)) = upd (Z 2) 1 (nI x) := (by first | rfl | simp [bI, c_1])
  have e_4 : (mSvF ((Z 3)) ((Z 2)) sv) = mSvF (Z 3) (Z 2) sv := (by first | rfl | simp [bI, c_1])
  rw [e_4, e_3] at hP hD
  have hP9 : va_P G vwCl (oX8 T q (sa (sa (sc (sc Z 0 (nI 0)) 3 (nI (mSvN sv))) 2 (upd (Z 2) 1 (nI x))) 3 (mSvF (Z 3) (Z 2) sv)) g) H := hP
  have hD9 : va_D A (oX8 T q (sa (sa (sc (sc Z 0 (nI 0)) 3 (nI (mSvN sv))) 2 (upd (Z 2) 1 (nI x))) 3 (mSvF (Z 3) (Z 2) sv)) g) := hD
  exact e_rwi hx hb hr hlocks hS (by first | rfl | simp [bI, c_1]) hP9 hD9 dX8_key_27
set_option maxHeartbeats 4000000 in
set_option maxRecDepth 100000 in
theorem c_X8_tell (l : Launch) (G : va_G) (T : Nat → ClassId) (sz : Nat) (q : Nat → Nat) (Z : Nat → Nat → Int32) (g : Int64) (r : Nat) (sv : Nat) (hr6 : r < 6) (hsv : Z 0 3 = nI sv) (hsv6 : sv ≤ 6) : RWi l yX8_tell wsX8_tell 6 0 0 G T sz (oX8 T q Z g) [.ref (q 0), .int (nI r)] (Z 2 (14 + 5 * r)) (oX8 T q (sa (sa (sc (sc Z 0 (nI 0)) 3 (nI (mSvN sv))) 2 (upd (Z 2) (14 + 5 * r) (Z 2 1))) 3 (mSvF (Z 3) (Z 2) sv)) g) := by
  refine Met.ofW (cc := cX8_tell) (maxL := 2) (ret := (some .int)) (by decide) rfl ?_
  intro p e s m args below meth c s₁ B hml hv
  obtain ⟨ha, hsz, hP, hK, hD0, hE0⟩ := hv
  have hx := B.exec
  have hb := B.bytes
  have hr := B.returns
  have hlocks := B.notSynchronized
  have hts := atoms_spec (ws := wsX8_tell) B.pre
  have hown : s.vm.findClass RX8 = some m.cls := findClass_of_methodNamed B.named
  have cx : CallFix p m c cX8_tell 2 s args wsX8_tell RX8 := ⟨hx, hb, hml, hown, hts⟩
  subst hsz
  have hD := hD0.self (sz := s.heap.size)
  generalize hAe : va_A (oX8 T q Z g) s.heap.size = A at hD hE0 ⊢
  have hE : gE A s s.heap := hE0
  have hA : ∀ q : Nat, s.heap.size ≤ q → A q := fun q h => by rw [← hAe]; exact Or.inr h
  have hS : va_S A s.heap s.heap [] := va_S.rf
  refine w_entry ha (Nat.le_of_ble_eq_true rfl) (fun ls hl => ?_)
  refine w_q (fun Q0 hQ => ?_)
  have lk28 := hts (.fieldLink RX8 28 "WhistleTunesModel" "thrown" "I") (by decide +kernel)
  have hinX8 : ∀ w ∈ wsX80, w ∈ wsX8_tell := by decide +kernel
  have hl : lv_has ls 2 [(0, .ref (q 0)), (1, .int (nI r))] := hl
  have hP : va_P G vwCl [(q 0, .inr (8, [.int (Z 0 0), .ref (q 2), .ref (q 3), .int (Z 0 3), .ref (q 5), .int (Z 0 5), .ref (q 7), .int (Z 0 7), .int (Z 0 8), .int (Z 0 9), .int (Z 0 10), .int (Z 0 11), .ref (q 13), .int (Z 0 13), .ref (q 15), .long g])), (q 2, .inl (T 0, 267, .inl (Z 2))), (q 3, .inl (T 0, 1602, .inl (Z 3))), (q 5, .inl (T 0, 267, .inl (Z 5))), (q 7, .inl (T 0, 60, .inl (Z 7))), (q 13, .inl (T 0, 8, .inl (Z 13))), (q 15, .inl (T 0, 3, .inl (Z 15)))] s.heap := hP
  have hD : va_D A [(q 0, .inr (8, [.int (Z 0 0), .ref (q 2), .ref (q 3), .int (Z 0 3), .ref (q 5), .int (Z 0 5), .ref (q 7), .int (Z 0 7), .int (Z 0 8), .int (Z 0 9), .int (Z 0 10), .int (Z 0 11), .ref (q 13), .int (Z 0 13), .ref (q 15), .long g])), (q 2, .inl (T 0, 267, .inl (Z 2))), (q 3, .inl (T 0, 1602, .inl (Z 3))), (q 5, .inl (T 0, 267, .inl (Z 5))), (q 7, .inl (T 0, 60, .inl (Z 7))), (q 13, .inl (T 0, 8, .inl (Z 13))), (q 15, .inl (T 0, 3, .inl (Z 15)))] := hD
  skip
  refine w_h (fun H locs hHe hLe => ?_)
  have hP : va_P G vwCl [(q 0, .inr (8, [.int (Z 0 0), .ref (q 2), .ref (q 3), .int (Z 0 3), .ref (q 5), .int (Z 0 5), .ref (q 7), .int (Z 0 7), .int (Z 0 8), .int (Z 0 9), .int (Z 0 10), .int (Z 0 11), .ref (q 13), .int (Z 0 13), .ref (q 15), .long g])), (q 2, .inl (T 0, 267, .inl (Z 2))), (q 3, .inl (T 0, 1602, .inl (Z 3))), (q 5, .inl (T 0, 267, .inl (Z 5))), (q 7, .inl (T 0, 60, .inl (Z 7))), (q 13, .inl (T 0, 8, .inl (Z 13))), (q 15, .inl (T 0, 3, .inl (Z 15)))] H := by rw [hHe]; exact hP
  have hS : va_S A s.heap H locs := by rw [hHe, hLe]; exact hS
  refine lv_aload_n hx hb dX8_tell_0 rfl (lv_at hl 0 rfl) ?_
  refine n_iconst hx hb 0 dX8_tell_1 (by decide) ?_
  refine va_put (D := G) (ci := 8) (v := .int (nI 0)) (ty := .int) (C := RX8) (T := TX8) (N := 16) hx hb hts hinX8 tyX8 tyX8_ok nmX8 hown hK hP hD hS 0 rfl rfl 0 (by decide) lk28 (fun _ h9 => h9) rfl (by decide +kernel) rfl rfl (Nat.le_of_ble_eq_true rfl) dX8_tell_2 (fun H locs hP hD hS => ?_)
  have hP : va_P G vwCl [(q 0, .inr (8, [.int (nI 0), .ref (q 2), .ref (q 3), .int (Z 0 3), .ref (q 5), .int (Z 0 5), .ref (q 7), .int (Z 0 7), .int (Z 0 8), .int (Z 0 9), .int (Z 0 10), .int (Z 0 11), .ref (q 13), .int (Z 0 13), .ref (q 15), .long g])), (q 2, .inl (T 0, 267, .inl (Z 2))), (q 3, .inl (T 0, 1602, .inl (Z 3))), (q 5, .inl (T 0, 267, .inl (Z 5))), (q 7, .inl (T 0, 60, .inl (Z 7))), (q 13, .inl (T 0, 8, .inl (Z 13))), (q 15, .inl (T 0, 3, .inl (Z 15)))] H := hP
  have hD : va_D A [(q 0, .inr (8, [.int (nI 0), .ref (q 2), .ref (q 3), .int (Z 0 3), .ref (q 5), .int (Z 0 5), .ref (q 7), .int (Z 0 7), .int (Z 0 8), .int (Z 0 9), .int (Z 0 10), .int (Z 0 11), .ref (q 13), .int (Z 0 13), .ref (q 15), .long g])), (q 2, .inl (T 0, 267, .inl (Z 2))), (q 3, .inl (T 0, 1602, .inl (Z 3))), (q 5, .inl (T 0, 267, .inl (Z 5))), (q 7, .inl (T 0, 60, .inl (Z 7))), (q 13, .inl (T 0, 8, .inl (Z 13))), (q 15, .inl (T 0, 3, .inl (Z 15)))] := hD
  refine lv_iload_n hx hb dX8_tell_5 rfl (lv_at hl 1 rfl) ?_
  refine k_roS (As := [.int (nI r)]) (rest := []) (wc := []) (d := 1) (v := bI (pWi (nI r) (nI 0) (nI 5))) cx (c_X8_isRoom l G T A (nI r) ) (va_cwS 1 hts gX8_tell_X8_isRoom rfl rfl rfl (by decide +kernel) ⟨Nat.le_of_ble_eq_true rfl, Nat.le_of_ble_eq_true rfl⟩) (hP.sub (ws' := []) [] rfl) hK (hE.kept hS.2.1) rfl hl.1 rfl (Nat.le_of_ble_eq_true rfl) dX8_tell_6 ⟨Nat.le_of_ble_eq_true rfl, Nat.le_of_ble_eq_true rfl⟩ ?_
  refine b_if_ne (b := pWi (nI r) (nI 0) (nI 5)) (tgt := 18) hx hb dX8_tell_9 (by decide) (fun c_1 => ?_) (fun c_2 => by exfalso; rw [pWi_n (by omega) (by omega) (by decide)] at c_2; cases c_2)
  refine lv_aload_n hx hb dX8_tell_18 rfl (lv_at hl 0 rfl) ?_
  refine k_rvV (As := []) (rest := []) (wc := oX8 T q (sc Z 0 (nI 0)) g) (wr := []) (w1 := oX8 T q (sa (sc (sc Z 0 (nI 0)) 3 (nI (mSvN sv))) 3 (mSvF ((sc Z 0 (nI 0)) 3) ((sc Z 0 (nI 0)) 2) sv)) g) (d := 0) (mc := 0) (ms := 0) (isC := [0, 1, 2, 3, 4, 5, 6]) (isR := []) cx (c_X8_save l G T H.size q (sc Z 0 (nI 0)) g sv (by first | assumption | rfl | omega) (by omega)) (cwV 0 hts gX8_tell_X8_save rfl rfl rfl (by decide +kernel) ⟨Nat.le_of_ble_eq_true rfl, Nat.le_of_ble_eq_true rfl⟩) ⟨hP, hD, hS, hA, hE, hK, rfl, rfl, rfl, rfl, by decide⟩ (va_recv hK hP (ci := 8) (q0 := 0) rfl rfl) rfl hl.1 rfl (Nat.le_of_ble_eq_true rfl) dX8_tell_19 ⟨Nat.le_of_ble_eq_true rfl, Nat.le_of_ble_eq_true rfl⟩ (fun H locs hP hD hS hz => ?_)
  have hP : va_P G vwCl [(q 0, .inr (8, [.int (nI 0), .ref (q 2), .ref (q 3), .int (nI (mSvN sv)), .ref (q 5), .int (Z 0 5), .ref (q 7), .int (Z 0 7), .int (Z 0 8), .int (Z 0 9), .int (Z 0 10), .int (Z 0 11), .ref (q 13), .int (Z 0 13), .ref (q 15), .long g])), (q 2, .inl (T 0, 267, .inl (Z 2))), (q 3, .inl (T 0, 1602, .inl (mSvF ((Z 3)) ((Z 2)) sv))), (q 5, .inl (T 0, 267, .inl (Z 5))), (q 7, .inl (T 0, 60, .inl (Z 7))), (q 13, .inl (T 0, 8, .inl (Z 13))), (q 15, .inl (T 0, 3, .inl (Z 15)))] H := hP
  have hD : va_D A [(q 0, .inr (8, [.int (nI 0), .ref (q 2), .ref (q 3), .int (nI (mSvN sv)), .ref (q 5), .int (Z 0 5), .ref (q 7), .int (Z 0 7), .int (Z 0 8), .int (Z 0 9), .int (Z 0 10), .int (Z 0 11), .ref (q 13), .int (Z 0 13), .ref (q 15), .long g])), (q 2, .inl (T 0, 267, .inl (Z 2))), (q 3, .inl (T 0, 1602, .inl (mSvF ((Z 3)) ((Z 2)) sv))), (q 5, .inl (T 0, 267, .inl (Z 5))), (q 7, .inl (T 0, 60, .inl (Z 7))), (q 13, .inl (T 0, 8, .inl (Z 13))), (q 15, .inl (T 0, 3, .inl (Z 15)))] := hD
  refine lv_aload_n hx hb dX8_tell_22 rfl (lv_at hl 0 rfl) ?_
  refine lv_iload_n hx hb dX8_tell_23 rfl (lv_at hl 1 rfl) ?_
  refine k_rwV (As := [.int (nI r)]) (rest := []) (wc := oX8 T q (sa (sc (sc Z 0 (nI 0)) 3 (nI (mSvN sv))) 3 (mSvF ((Z 3)) ((Z 2)) sv)) g) (wr := []) (w1 := oX8 T q (sa (sa (sc (sc Z 0 (nI 0)) 3 (nI (mSvN sv))) 3 (mSvF ((Z 3)) ((Z 2)) sv)) 2 (upd ((sa (sc (sc Z 0 (nI 0)) 3 (nI (mSvN sv))) 3 (mSvF ((Z 3)) ((Z 2)) sv)) 2) (14 + 5 * r) ((sa (sc (sc Z 0 (nI 0)) 3 (nI (mSvN sv))) 3 (mSvF ((Z 3)) ((Z 2)) sv)) 2 1))) g) (d := 1) (mc := 0) (ms := 0) (v := (Z 2) (14 + 5 * r)) (isC := [0, 1, 2, 3, 4, 5, 6]) (isR := []) cx (c_X8_tells l G T H.size q (sa (sc (sc Z 0 (nI 0)) 3 (nI (mSvN sv))) 3 (mSvF ((Z 3)) ((Z 2)) sv)) g r (by omega)) (cwV 1 hts gX8_tell_X8_tells rfl rfl rfl (by decide +kernel) ⟨Nat.le_of_ble_eq_true rfl, Nat.le_of_ble_eq_true rfl⟩) ⟨hP, hD, hS, hA, hE, hK, rfl, rfl, rfl, rfl, by decide⟩ (va_recv hK hP (ci := 8) (q0 := 0) rfl rfl) rfl hl.1 rfl (Nat.le_of_ble_eq_true rfl) dX8_tell_24 ⟨Nat.le_of_ble_eq_true rfl, Nat.le_of_ble_eq_true rfl⟩ (fun H locs hP hD hS hz => ?_)
  have hP : va_P G vwCl [(q 0, .inr (8, [.int (nI 0), .ref (q 2), .ref (q 3), .int (nI (mSvN sv)), .ref (q 5), .int (Z 0 5), .ref (q 7), .int (Z 0 7), .int (Z 0 8), .int (Z 0 9), .int (Z 0 10), .int (Z 0 11), .ref (q 13), .int (Z 0 13), .ref (q 15), .long g])), (q 2, .inl (T 0, 267, .inl (upd ((Z 2)) (14 + 5 * r) ((Z 2) 1)))), (q 3, .inl (T 0, 1602, .inl (mSvF ((Z 3)) ((Z 2)) sv))), (q 5, .inl (T 0, 267, .inl (Z 5))), (q 7, .inl (T 0, 60, .inl (Z 7))), (q 13, .inl (T 0, 8, .inl (Z 13))), (q 15, .inl (T 0, 3, .inl (Z 15)))] H := hP
  have hD : va_D A [(q 0, .inr (8, [.int (nI 0), .ref (q 2), .ref (q 3), .int (nI (mSvN sv)), .ref (q 5), .int (Z 0 5), .ref (q 7), .int (Z 0 7), .int (Z 0 8), .int (Z 0 9), .int (Z 0 10), .int (Z 0 11), .ref (q 13), .int (Z 0 13), .ref (q 15), .long g])), (q 2, .inl (T 0, 267, .inl (upd ((Z 2)) (14 + 5 * r) ((Z 2) 1)))), (q 3, .inl (T 0, 1602, .inl (mSvF ((Z 3)) ((Z 2)) sv))), (q 5, .inl (T 0, 267, .inl (Z 5))), (q 7, .inl (T 0, 60, .inl (Z 7))), (q 13, .inl (T 0, 8, .inl (Z 13))), (q 15, .inl (T 0, 3, .inl (Z 15)))] := hD
  subst hQ
  have e_3 : (upd ((Z 2)) (14 + 5 * r) ((Z 2) 1)) = upd (Z 2) (14 + 5 * r) (Z 2 1) := (by first | rfl | simp [bI, c_1])
  have e_4 : (mSvF ((Z 3)) ((Z 2)) sv) = mSvF (Z 3) (Z 2) sv := (by first | rfl | simp [bI, c_1])
  rw [e_3, e_4] at hP hD
  have hP9 : va_P G vwCl (oX8 T q (sa (sa (sc (sc Z 0 (nI 0)) 3 (nI (mSvN sv))) 2 (upd (Z 2) (14 + 5 * r) (Z 2 1))) 3 (mSvF (Z 3) (Z 2) sv)) g) H := hP
  have hD9 : va_D A (oX8 T q (sa (sa (sc (sc Z 0 (nI 0)) 3 (nI (mSvN sv))) 2 (upd (Z 2) (14 + 5 * r) (Z 2 1))) 3 (mSvF (Z 3) (Z 2) sv)) g) := hD
  exact e_rwi hx hb hr hlocks hS (by first | rfl | simp [bI, c_1]) hP9 hD9 dX8_tell_27
set_option maxHeartbeats 4000000 in
set_option maxRecDepth 100000 in
theorem c_X8_lookout (l : Launch) (G : va_G) (T : Nat → ClassId) (sz : Nat) (q : Nat → Nat) (Z : Nat → Nat → Int32) (g : Int64) (x : Nat) (b : Bool) (sv : Nat) (hx3 : x < 3) (hsv : Z 0 3 = nI sv) (hsv6 : sv ≤ 6) : RWi l yX8_lookout wsX8_lookout 6 0 0 G T sz (oX8 T q Z g) [.ref (q 0), .int (nI x), .int (bI b)] (mOn (if b = true then Z 2 2 ||| iShl (nI 1) (nI x) else Z 2 2 &&& (iShl (nI 1) (nI x) ^^^ -1)) 6) (oX8 T q (sa (sa (sc (sc Z 0 (nI 0)) 3 (nI (mSvN sv))) 2 (upd (Z 2) 2 (if b = true then Z 2 2 ||| iShl (nI 1) (nI x) else Z 2 2 &&& (iShl (nI 1) (nI x) ^^^ -1)))) 3 (mSvF (Z 3) (Z 2) sv)) g) := by
  refine Met.ofW (cc := cX8_lookout) (maxL := 3) (ret := (some .int)) (by decide) rfl ?_
  intro p e s m args below meth c s₁ B hml hv
  obtain ⟨ha, hsz, hP, hK, hD0, hE0⟩ := hv
  have hx := B.exec
  have hb := B.bytes
  have hr := B.returns
  have hlocks := B.notSynchronized
  have hts := atoms_spec (ws := wsX8_lookout) B.pre
  have hown : s.vm.findClass RX8 = some m.cls := findClass_of_methodNamed B.named
  have cx : CallFix p m c cX8_lookout 3 s args wsX8_lookout RX8 := ⟨hx, hb, hml, hown, hts⟩
  subst hsz
  have hD := hD0.self (sz := s.heap.size)
  generalize hAe : va_A (oX8 T q Z g) s.heap.size = A at hD hE0 ⊢
  have hE : gE A s s.heap := hE0
  have hA : ∀ q : Nat, s.heap.size ≤ q → A q := fun q h => by rw [← hAe]; exact Or.inr h
  have hS : va_S A s.heap s.heap [] := va_S.rf
  refine w_entry ha (Nat.le_of_ble_eq_true rfl) (fun ls hl => ?_)
  refine w_q (fun Q0 hQ => ?_)
  have lk28 := hts (.fieldLink RX8 28 "WhistleTunesModel" "thrown" "I") (by decide +kernel)
  have hinX8 : ∀ w ∈ wsX80, w ∈ wsX8_lookout := by decide +kernel
  have lk7 := hts (.fieldLink RX8 7 "WhistleTunesModel" "state" "[I") (by decide +kernel)
  have hl : lv_has ls 3 [(0, .ref (q 0)), (1, .int (nI x)), (2, .int (bI b))] := hl
  have hP : va_P G vwCl [(q 0, .inr (8, [.int (Z 0 0), .ref (q 2), .ref (q 3), .int (Z 0 3), .ref (q 5), .int (Z 0 5), .ref (q 7), .int (Z 0 7), .int (Z 0 8), .int (Z 0 9), .int (Z 0 10), .int (Z 0 11), .ref (q 13), .int (Z 0 13), .ref (q 15), .long g])), (q 2, .inl (T 0, 267, .inl (Z 2))), (q 3, .inl (T 0, 1602, .inl (Z 3))), (q 5, .inl (T 0, 267, .inl (Z 5))), (q 7, .inl (T 0, 60, .inl (Z 7))), (q 13, .inl (T 0, 8, .inl (Z 13))), (q 15, .inl (T 0, 3, .inl (Z 15)))] s.heap := hP
  have hD : va_D A [(q 0, .inr (8, [.int (Z 0 0), .ref (q 2), .ref (q 3), .int (Z 0 3), .ref (q 5), .int (Z 0 5), .ref (q 7), .int (Z 0 7), .int (Z 0 8), .int (Z 0 9), .int (Z 0 10), .int (Z 0 11), .ref (q 13), .int (Z 0 13), .ref (q 15), .long g])), (q 2, .inl (T 0, 267, .inl (Z 2))), (q 3, .inl (T 0, 1602, .inl (Z 3))), (q 5, .inl (T 0, 267, .inl (Z 5))), (q 7, .inl (T 0, 60, .inl (Z 7))), (q 13, .inl (T 0, 8, .inl (Z 13))), (q 15, .inl (T 0, 3, .inl (Z 15)))] := hD
  skip
  refine w_h (fun H locs hHe hLe => ?_)
  have hP : va_P G vwCl [(q 0, .inr (8, [.int (Z 0 0), .ref (q 2), .ref (q 3), .int (Z 0 3), .ref (q 5), .int (Z 0 5), .ref (q 7), .int (Z 0 7), .int (Z 0 8), .int (Z 0 9), .int (Z 0 10), .int (Z 0 11), .ref (q 13), .int (Z 0 13), .ref (q 15), .long g])), (q 2, .inl (T 0, 267, .inl (Z 2))), (q 3, .inl (T 0, 1602, .inl (Z 3))), (q 5, .inl (T 0, 267, .inl (Z 5))), (q 7, .inl (T 0, 60, .inl (Z 7))), (q 13, .inl (T 0, 8, .inl (Z 13))), (q 15, .inl (T 0, 3, .inl (Z 15)))] H := by rw [hHe]; exact hP
  have hS : va_S A s.heap H locs := by rw [hHe, hLe]; exact hS
  refine lv_aload_n hx hb dX8_lookout_0 rfl (lv_at hl 0 rfl) ?_
  refine n_iconst hx hb 0 dX8_lookout_1 (by decide) ?_
  refine va_put (D := G) (ci := 8) (v := .int (nI 0)) (ty := .int) (C := RX8) (T := TX8) (N := 16) hx hb hts hinX8 tyX8 tyX8_ok nmX8 hown hK hP hD hS 0 rfl rfl 0 (by decide) lk28 (fun _ h9 => h9) rfl (by decide +kernel) rfl rfl (Nat.le_of_ble_eq_true rfl) dX8_lookout_2 (fun H locs hP hD hS => ?_)
  have hP : va_P G vwCl [(q 0, .inr (8, [.int (nI 0), .ref (q 2), .ref (q 3), .int (Z 0 3), .ref (q 5), .int (Z 0 5), .ref (q 7), .int (Z 0 7), .int (Z 0 8), .int (Z 0 9), .int (Z 0 10), .int (Z 0 11), .ref (q 13), .int (Z 0 13), .ref (q 15), .long g])), (q 2, .inl (T 0, 267, .inl (Z 2))), (q 3, .inl (T 0, 1602, .inl (Z 3))), (q 5, .inl (T 0, 267, .inl (Z 5))), (q 7, .inl (T 0, 60, .inl (Z 7))), (q 13, .inl (T 0, 8, .inl (Z 13))), (q 15, .inl (T 0, 3, .inl (Z 15)))] H := hP
  have hD : va_D A [(q 0, .inr (8, [.int (nI 0), .ref (q 2), .ref (q 3), .int (Z 0 3), .ref (q 5), .int (Z 0 5), .ref (q 7), .int (Z 0 7), .int (Z 0 8), .int (Z 0 9), .int (Z 0 10), .int (Z 0 11), .ref (q 13), .int (Z 0 13), .ref (q 15), .long g])), (q 2, .inl (T 0, 267, .inl (Z 2))), (q 3, .inl (T 0, 1602, .inl (Z 3))), (q 5, .inl (T 0, 267, .inl (Z 5))), (q 7, .inl (T 0, 60, .inl (Z 7))), (q 13, .inl (T 0, 8, .inl (Z 13))), (q 15, .inl (T 0, 3, .inl (Z 15)))] := hD
  refine lv_iload_n hx hb dX8_lookout_5 rfl (lv_at hl 1 rfl) ?_
  refine n_iconst hx hb 0 dX8_lookout_6 (by decide) ?_
  refine n_iconst hx hb 2 dX8_lookout_7 (by decide) ?_
  refine k_roS (As := [.int (nI x), .int (nI 0), .int (nI 2)]) (rest := []) (wc := []) (d := 0) (v := bI (pWi (nI x) (nI 0) (nI 2))) cx (c_X8_within l G T A (nI x) (nI 0) (nI 2) ) (va_cwS 3 hts gX8_lookout_X8_within rfl rfl rfl (by decide +kernel) ⟨Nat.le_of_ble_eq_true rfl, Nat.le_of_ble_eq_true rfl⟩) (hP.sub (ws' := []) [] rfl) hK (hE.kept hS.2.1) rfl hl.1 rfl (Nat.le_of_ble_eq_true rfl) dX8_lookout_8 ⟨Nat.le_of_ble_eq_true rfl, Nat.le_of_ble_eq_true rfl⟩ ?_
  refine b_if_ne (b := pWi (nI x) (nI 0) (nI 2)) (tgt := 20) hx hb dX8_lookout_11 (by decide) (fun c_1 => ?_) (fun c_2 => by exfalso; rw [pWi_n (by omega) (by omega) (by decide)] at c_2; cases c_2)
  refine lv_aload_n hx hb dX8_lookout_20 rfl (lv_at hl 0 rfl) ?_
  refine k_rvV (As := []) (rest := []) (wc := oX8 T q (sc Z 0 (nI 0)) g) (wr := []) (w1 := oX8 T q (sa (sc (sc Z 0 (nI 0)) 3 (nI (mSvN sv))) 3 (mSvF ((sc Z 0 (nI 0)) 3) ((sc Z 0 (nI 0)) 2) sv)) g) (d := 0) (mc := 0) (ms := 0) (isC := [0, 1, 2, 3, 4, 5, 6]) (isR := []) cx (c_X8_save l G T H.size q (sc Z 0 (nI 0)) g sv (by first | assumption | rfl | omega) (by omega)) (cwV 0 hts gX8_lookout_X8_save rfl rfl rfl (by decide +kernel) ⟨Nat.le_of_ble_eq_true rfl, Nat.le_of_ble_eq_true rfl⟩) ⟨hP, hD, hS, hA, hE, hK, rfl, rfl, rfl, rfl, by decide⟩ (va_recv hK hP (ci := 8) (q0 := 0) rfl rfl) rfl hl.1 rfl (Nat.le_of_ble_eq_true rfl) dX8_lookout_21 ⟨Nat.le_of_ble_eq_true rfl, Nat.le_of_ble_eq_true rfl⟩ (fun H locs hP hD hS hz => ?_)
  have hP : va_P G vwCl [(q 0, .inr (8, [.int (nI 0), .ref (q 2), .ref (q 3), .int (nI (mSvN sv)), .ref (q 5), .int (Z 0 5), .ref (q 7), .int (Z 0 7), .int (Z 0 8), .int (Z 0 9), .int (Z 0 10), .int (Z 0 11), .ref (q 13), .int (Z 0 13), .ref (q 15), .long g])), (q 2, .inl (T 0, 267, .inl (Z 2))), (q 3, .inl (T 0, 1602, .inl (mSvF ((Z 3)) ((Z 2)) sv))), (q 5, .inl (T 0, 267, .inl (Z 5))), (q 7, .inl (T 0, 60, .inl (Z 7))), (q 13, .inl (T 0, 8, .inl (Z 13))), (q 15, .inl (T 0, 3, .inl (Z 15)))] H := hP
  have hD : va_D A [(q 0, .inr (8, [.int (nI 0), .ref (q 2), .ref (q 3), .int (nI (mSvN sv)), .ref (q 5), .int (Z 0 5), .ref (q 7), .int (Z 0 7), .int (Z 0 8), .int (Z 0 9), .int (Z 0 10), .int (Z 0 11), .ref (q 13), .int (Z 0 13), .ref (q 15), .long g])), (q 2, .inl (T 0, 267, .inl (Z 2))), (q 3, .inl (T 0, 1602, .inl (mSvF ((Z 3)) ((Z 2)) sv))), (q 5, .inl (T 0, 267, .inl (Z 5))), (q 7, .inl (T 0, 60, .inl (Z 7))), (q 13, .inl (T 0, 8, .inl (Z 13))), (q 15, .inl (T 0, 3, .inl (Z 15)))] := hD
  refine lv_aload_n hx hb dX8_lookout_24 rfl (lv_at hl 0 rfl) ?_
  refine va_get (D := G) (ci := 8) (v := .ref (q 2)) (C := RX8) (T := TX8) (N := 16) hx hb hts hinX8 hown hK hP 0 rfl rfl 1 (by decide) lk7 (fun _ h9 => h9) rfl dX8_lookout_25 ?_
  refine n_iconst hx hb 2 dX8_lookout_28 (by decide) ?_
  refine lv_iload_n hx hb dX8_lookout_29 rfl (lv_at hl 2 rfl) ?_
  have J_3 : ∀ y9 : Int32, y9 = (if b = true then Z 2 2 ||| iShl (nI 1) (nI x) else Z 2 2 &&& (iShl (nI 1) (nI x) ^^^ -1)) → W p l e (headSpec wsX8_lookout (rmD 6 0 0)).room s m args below meth c H locs 0 0 Q0 (F0 m 58 ls (.int y9 :: .int (nI 2) :: .ref (q 2) :: [])) := by
    intro y9 hy9
    subst hy9
    refine n_iast hx hb hK hP hD hS 1 0 rfl rfl 2 (by decide) (by decide) dX8_lookout_58 (fun H locs hP hD hS => ?_)
    have hP : va_P G vwCl [(q 0, .inr (8, [.int (nI 0), .ref (q 2), .ref (q 3), .int (nI (mSvN sv)), .ref (q 5), .int (Z 0 5), .ref (q 7), .int (Z 0 7), .int (Z 0 8), .int (Z 0 9), .int (Z 0 10), .int (Z 0 11), .ref (q 13), .int (Z 0 13), .ref (q 15), .long g])), (q 2, .inl (T 0, 267, .inl (upd (Z 2) 2 (if b = true then Z 2 2 ||| iShl (nI 1) (nI x) else Z 2 2 &&& (iShl (nI 1) (nI x) ^^^ -1))))), (q 3, .inl (T 0, 1602, .inl (mSvF ((Z 3)) ((Z 2)) sv))), (q 5, .inl (T 0, 267, .inl (Z 5))), (q 7, .inl (T 0, 60, .inl (Z 7))), (q 13, .inl (T 0, 8, .inl (Z 13))), (q 15, .inl (T 0, 3, .inl (Z 15)))] H := hP
    have hD : va_D A [(q 0, .inr (8, [.int (nI 0), .ref (q 2), .ref (q 3), .int (nI (mSvN sv)), .ref (q 5), .int (Z 0 5), .ref (q 7), .int (Z 0 7), .int (Z 0 8), .int (Z 0 9), .int (Z 0 10), .int (Z 0 11), .ref (q 13), .int (Z 0 13), .ref (q 15), .long g])), (q 2, .inl (T 0, 267, .inl (upd (Z 2) 2 (if b = true then Z 2 2 ||| iShl (nI 1) (nI x) else Z 2 2 &&& (iShl (nI 1) (nI x) ^^^ -1))))), (q 3, .inl (T 0, 1602, .inl (mSvF ((Z 3)) ((Z 2)) sv))), (q 5, .inl (T 0, 267, .inl (Z 5))), (q 7, .inl (T 0, 60, .inl (Z 7))), (q 13, .inl (T 0, 8, .inl (Z 13))), (q 15, .inl (T 0, 3, .inl (Z 15)))] := hD
    refine lv_aload_n hx hb dX8_lookout_59 rfl (lv_at hl 0 rfl) ?_
    refine va_get (D := G) (ci := 8) (v := .ref (q 2)) (C := RX8) (T := TX8) (N := 16) hx hb hts hinX8 hown hK hP 0 rfl rfl 1 (by decide) lk7 (fun _ h9 => h9) rfl dX8_lookout_60 ?_
    refine n_iconst hx hb 2 dX8_lookout_63 (by decide) ?_
    refine n_iald hx hb hK hP 1 0 rfl rfl 2 (by decide) (by decide) dX8_lookout_64 ?_
    refine k_roS (As := [.int ((upd (Z 2) 2 (if b = true then Z 2 2 ||| iShl (nI 1) (nI x) else Z 2 2 &&& (iShl (nI 1) (nI x) ^^^ -1))) 2)]) (rest := []) (wc := []) (d := 0) (v := mOn ((upd (Z 2) 2 (if b = true then Z 2 2 ||| iShl (nI 1) (nI x) else Z 2 2 &&& (iShl (nI 1) (nI x) ^^^ -1))) 2) 6) cx (c_X8_ones l G T A ((upd (Z 2) 2 (if b = true then Z 2 2 ||| iShl (nI 1) (nI x) else Z 2 2 &&& (iShl (nI 1) (nI x) ^^^ -1))) 2) ) (va_cwS 1 hts gX8_lookout_X8_ones rfl rfl rfl (by decide +kernel) ⟨Nat.le_of_ble_eq_true rfl, Nat.le_of_ble_eq_true rfl⟩) (hP.sub (ws' := []) [] rfl) hK (hE.kept hS.2.1) rfl hl.1 rfl (Nat.le_of_ble_eq_true rfl) dX8_lookout_65 ⟨Nat.le_of_ble_eq_true rfl, Nat.le_of_ble_eq_true rfl⟩ ?_
    subst hQ
    have e_4 : (mSvF ((Z 3)) ((Z 2)) sv) = mSvF (Z 3) (Z 2) sv := (by first | rfl | simp [bI, c_1])
    rw [e_4] at hP hD
    have hP9 : va_P G vwCl (oX8 T q (sa (sa (sc (sc Z 0 (nI 0)) 3 (nI (mSvN sv))) 2 (upd (Z 2) 2 (if b = true then Z 2 2 ||| iShl (nI 1) (nI x) else Z 2 2 &&& (iShl (nI 1) (nI x) ^^^ -1)))) 3 (mSvF (Z 3) (Z 2) sv)) g) H := hP
    have hD9 : va_D A (oX8 T q (sa (sa (sc (sc Z 0 (nI 0)) 3 (nI (mSvN sv))) 2 (upd (Z 2) 2 (if b = true then Z 2 2 ||| iShl (nI 1) (nI x) else Z 2 2 &&& (iShl (nI 1) (nI x) ^^^ -1)))) 3 (mSvF (Z 3) (Z 2) sv)) g) := hD
    exact e_rwi hx hb hr hlocks hS rfl hP9 hD9 dX8_lookout_68
  refine b_if_eq (b := b) (tgt := 46) hx hb dX8_lookout_30 (by decide) (fun c_5 => ?_) (fun c_6 => ?_)
  · skip
    refine lv_aload_n hx hb dX8_lookout_46 rfl (lv_at hl 0 rfl) ?_
    refine va_get (D := G) (ci := 8) (v := .ref (q 2)) (C := RX8) (T := TX8) (N := 16) hx hb hts hinX8 hown hK hP 0 rfl rfl 1 (by decide) lk7 (fun _ h9 => h9) rfl dX8_lookout_47 ?_
    refine n_iconst hx hb 2 dX8_lookout_50 (by decide) ?_
    refine n_iald hx hb hK hP 1 0 rfl rfl 2 (by decide) (by decide) dX8_lookout_51 ?_
    refine n_iconst hx hb 1 dX8_lookout_52 (by decide) ?_
    refine lv_iload_n hx hb dX8_lookout_53 rfl (lv_at hl 1 rfl) ?_
    refine x_ishl hx hb dX8_lookout_54 ?_
    refine lv_iconst (v := -1) hx hb dX8_lookout_55 (by decide) ?_
    refine lv_ixor hx hb dX8_lookout_56 ?_
    refine lv_iand hx hb dX8_lookout_57 ?_
    exact J_3 _ (by first | rw [if_pos c_5] | rw [if_neg (by rw [c_5]; decide)])
  · skip
    refine lv_aload_n hx hb dX8_lookout_33 rfl (lv_at hl 0 rfl) ?_
    refine va_get (D := G) (ci := 8) (v := .ref (q 2)) (C := RX8) (T := TX8) (N := 16) hx hb hts hinX8 hown hK hP 0 rfl rfl 1 (by decide) lk7 (fun _ h9 => h9) rfl dX8_lookout_34 ?_
    refine n_iconst hx hb 2 dX8_lookout_37 (by decide) ?_
    refine n_iald hx hb hK hP 1 0 rfl rfl 2 (by decide) (by decide) dX8_lookout_38 ?_
    refine n_iconst hx hb 1 dX8_lookout_39 (by decide) ?_
    refine lv_iload_n hx hb dX8_lookout_40 rfl (lv_at hl 1 rfl) ?_
    refine x_ishl hx hb dX8_lookout_41 ?_
    refine lv_ior hx hb dX8_lookout_42 ?_
    refine lv_goto (tgt := 58) hx hb dX8_lookout_43 (by decide) ?_
    exact J_3 _ (by first | rw [if_pos c_6] | rw [if_neg (by rw [c_6]; decide)])
set_option maxHeartbeats 4000000 in
set_option maxRecDepth 100000 in
theorem c_X8_ban (l : Launch) (G : va_G) (T : Nat → ClassId) (sz : Nat) (q : Nat → Nat) (Z : Nat → Nat → Int32) (g : Int64) (x : Nat) (mm : Nat) (sv : Nat) (hx3 : x < 3) (hm20 : mm < 20) (hsv : Z 0 3 = nI sv) (hsv6 : sv ≤ 6) : RWi l yX8_ban wsX8_ban 6 0 0 G T sz (oX8 T q Z g) [.ref (q 0), .int (nI x), .int (nI mm)] (iShr ((upd (Z 2) (44 + x) ((Z 2) (44 + x) ^^^ iShl (nI 1) (nI mm))) (44 + x)) (nI mm) &&& nI 1) (oX8 T q (sa (sa (sc (sc Z 0 (nI 0)) 3 (nI (mSvN sv))) 2 (upd (Z 2) (44 + x) (Z 2 (44 + x) ^^^ iShl (nI 1) (nI mm)))) 3 (mSvF (Z 3) (Z 2) sv)) g) := by
  refine Met.ofW (cc := cX8_ban) (maxL := 3) (ret := (some .int)) (by decide) rfl ?_
  intro p e s m args below meth c s₁ B hml hv
  obtain ⟨ha, hsz, hP, hK, hD0, hE0⟩ := hv
  have hx := B.exec
  have hb := B.bytes
  have hr := B.returns
  have hlocks := B.notSynchronized
  have hts := atoms_spec (ws := wsX8_ban) B.pre
  have hown : s.vm.findClass RX8 = some m.cls := findClass_of_methodNamed B.named
  have cx : CallFix p m c cX8_ban 3 s args wsX8_ban RX8 := ⟨hx, hb, hml, hown, hts⟩
  subst hsz
  have hD := hD0.self (sz := s.heap.size)
  generalize hAe : va_A (oX8 T q Z g) s.heap.size = A at hD hE0 ⊢
  have hE : gE A s s.heap := hE0
  have hA : ∀ q : Nat, s.heap.size ≤ q → A q := fun q h => by rw [← hAe]; exact Or.inr h
  have hS : va_S A s.heap s.heap [] := va_S.rf
  refine w_entry ha (Nat.le_of_ble_eq_true rfl) (fun ls hl => ?_)
  refine w_q (fun Q0 hQ => ?_)
  have lk28 := hts (.fieldLink RX8 28 "WhistleTunesModel" "thrown" "I") (by decide +kernel)
  have hinX8 : ∀ w ∈ wsX80, w ∈ wsX8_ban := by decide +kernel
  have lk7 := hts (.fieldLink RX8 7 "WhistleTunesModel" "state" "[I") (by decide +kernel)
  have hl : lv_has ls 3 [(0, .ref (q 0)), (1, .int (nI x)), (2, .int (nI mm))] := hl
  have hP : va_P G vwCl [(q 0, .inr (8, [.int (Z 0 0), .ref (q 2), .ref (q 3), .int (Z 0 3), .ref (q 5), .int (Z 0 5), .ref (q 7), .int (Z 0 7), .int (Z 0 8), .int (Z 0 9), .int (Z 0 10), .int (Z 0 11), .ref (q 13), .int (Z 0 13), .ref (q 15), .long g])), (q 2, .inl (T 0, 267, .inl (Z 2))), (q 3, .inl (T 0, 1602, .inl (Z 3))), (q 5, .inl (T 0, 267, .inl (Z 5))), (q 7, .inl (T 0, 60, .inl (Z 7))), (q 13, .inl (T 0, 8, .inl (Z 13))), (q 15, .inl (T 0, 3, .inl (Z 15)))] s.heap := hP
  have hD : va_D A [(q 0, .inr (8, [.int (Z 0 0), .ref (q 2), .ref (q 3), .int (Z 0 3), .ref (q 5), .int (Z 0 5), .ref (q 7), .int (Z 0 7), .int (Z 0 8), .int (Z 0 9), .int (Z 0 10), .int (Z 0 11), .ref (q 13), .int (Z 0 13), .ref (q 15), .long g])), (q 2, .inl (T 0, 267, .inl (Z 2))), (q 3, .inl (T 0, 1602, .inl (Z 3))), (q 5, .inl (T 0, 267, .inl (Z 5))), (q 7, .inl (T 0, 60, .inl (Z 7))), (q 13, .inl (T 0, 8, .inl (Z 13))), (q 15, .inl (T 0, 3, .inl (Z 15)))] := hD
  skip
  refine w_h (fun H locs hHe hLe => ?_)
  have hP : va_P G vwCl [(q 0, .inr (8, [.int (Z 0 0), .ref (q 2), .ref (q 3), .int (Z 0 3), .ref (q 5), .int (Z 0 5), .ref (q 7), .int (Z 0 7), .int (Z 0 8), .int (Z 0 9), .int (Z 0 10), .int (Z 0 11), .ref (q 13), .int (Z 0 13), .ref (q 15), .long g])), (q 2, .inl (T 0, 267, .inl (Z 2))), (q 3, .inl (T 0, 1602, .inl (Z 3))), (q 5, .inl (T 0, 267, .inl (Z 5))), (q 7, .inl (T 0, 60, .inl (Z 7))), (q 13, .inl (T 0, 8, .inl (Z 13))), (q 15, .inl (T 0, 3, .inl (Z 15)))] H := by rw [hHe]; exact hP
  have hS : va_S A s.heap H locs := by rw [hHe, hLe]; exact hS
  refine lv_aload_n hx hb dX8_ban_0 rfl (lv_at hl 0 rfl) ?_
  refine n_iconst hx hb 0 dX8_ban_1 (by decide) ?_
  refine va_put (D := G) (ci := 8) (v := .int (nI 0)) (ty := .int) (C := RX8) (T := TX8) (N := 16) hx hb hts hinX8 tyX8 tyX8_ok nmX8 hown hK hP hD hS 0 rfl rfl 0 (by decide) lk28 (fun _ h9 => h9) rfl (by decide +kernel) rfl rfl (Nat.le_of_ble_eq_true rfl) dX8_ban_2 (fun H locs hP hD hS => ?_)
  have hP : va_P G vwCl [(q 0, .inr (8, [.int (nI 0), .ref (q 2), .ref (q 3), .int (Z 0 3), .ref (q 5), .int (Z 0 5), .ref (q 7), .int (Z 0 7), .int (Z 0 8), .int (Z 0 9), .int (Z 0 10), .int (Z 0 11), .ref (q 13), .int (Z 0 13), .ref (q 15), .long g])), (q 2, .inl (T 0, 267, .inl (Z 2))), (q 3, .inl (T 0, 1602, .inl (Z 3))), (q 5, .inl (T 0, 267, .inl (Z 5))), (q 7, .inl (T 0, 60, .inl (Z 7))), (q 13, .inl (T 0, 8, .inl (Z 13))), (q 15, .inl (T 0, 3, .inl (Z 15)))] H := hP
  have hD : va_D A [(q 0, .inr (8, [.int (nI 0), .ref (q 2), .ref (q 3), .int (Z 0 3), .ref (q 5), .int (Z 0 5), .ref (q 7), .int (Z 0 7), .int (Z 0 8), .int (Z 0 9), .int (Z 0 10), .int (Z 0 11), .ref (q 13), .int (Z 0 13), .ref (q 15), .long g])), (q 2, .inl (T 0, 267, .inl (Z 2))), (q 3, .inl (T 0, 1602, .inl (Z 3))), (q 5, .inl (T 0, 267, .inl (Z 5))), (q 7, .inl (T 0, 60, .inl (Z 7))), (q 13, .inl (T 0, 8, .inl (Z 13))), (q 15, .inl (T 0, 3, .inl (Z 15)))] := hD
  refine lv_iload_n hx hb dX8_ban_5 rfl (lv_at hl 1 rfl) ?_
  refine n_iconst hx hb 0 dX8_ban_6 (by decide) ?_
  refine n_iconst hx hb 2 dX8_ban_7 (by decide) ?_
  refine k_roS (As := [.int (nI x), .int (nI 0), .int (nI 2)]) (rest := []) (wc := []) (d := 0) (v := bI (pWi (nI x) (nI 0) (nI 2))) cx (c_X8_within l G T A (nI x) (nI 0) (nI 2) ) (va_cwS 3 hts gX8_ban_X8_within rfl rfl rfl (by decide +kernel) ⟨Nat.le_of_ble_eq_true rfl, Nat.le_of_ble_eq_true rfl⟩) (hP.sub (ws' := []) [] rfl) hK (hE.kept hS.2.1) rfl hl.1 rfl (Nat.le_of_ble_eq_true rfl) dX8_ban_8 ⟨Nat.le_of_ble_eq_true rfl, Nat.le_of_ble_eq_true rfl⟩ ?_
  refine b_if_eq (b := pWi (nI x) (nI 0) (nI 2)) (tgt := 21) hx hb dX8_ban_11 (by decide) (fun c_1 => by exfalso; rw [pWi_n (by omega) (by omega) (by decide)] at c_1; cases c_1) (fun c_2 => ?_)
  refine lv_iload_n hx hb dX8_ban_14 rfl (lv_at hl 2 rfl) ?_
  refine k_roS (As := [.int (nI mm)]) (rest := []) (wc := []) (d := 1) (v := bI (pWi (nI mm) (nI 0) (nI 19))) cx (c_X8_isMessage l G T A (nI mm) ) (va_cwS 1 hts gX8_ban_X8_isMessage rfl rfl rfl (by decide +kernel) ⟨Nat.le_of_ble_eq_true rfl, Nat.le_of_ble_eq_true rfl⟩) (hP.sub (ws' := []) [] rfl) hK (hE.kept hS.2.1) rfl hl.1 rfl (Nat.le_of_ble_eq_true rfl) dX8_ban_15 ⟨Nat.le_of_ble_eq_true rfl, Nat.le_of_ble_eq_true rfl⟩ ?_
  refine b_if_ne (b := pWi (nI mm) (nI 0) (nI 19)) (tgt := 27) hx hb dX8_ban_18 (by decide) (fun c_3 => ?_) (fun c_4 => by exfalso; rw [pWi_n (by omega) (by omega) (by decide)] at c_4; cases c_4)
  refine lv_aload_n hx hb dX8_ban_27 rfl (lv_at hl 0 rfl) ?_
  refine k_rvV (As := []) (rest := []) (wc := oX8 T q (sc Z 0 (nI 0)) g) (wr := []) (w1 := oX8 T q (sa (sc (sc Z 0 (nI 0)) 3 (nI (mSvN sv))) 3 (mSvF ((sc Z 0 (nI 0)) 3) ((sc Z 0 (nI 0)) 2) sv)) g) (d := 0) (mc := 0) (ms := 0) (isC := [0, 1, 2, 3, 4, 5, 6]) (isR := []) cx (c_X8_save l G T H.size q (sc Z 0 (nI 0)) g sv (by first | assumption | rfl | omega) (by omega)) (cwV 0 hts gX8_ban_X8_save rfl rfl rfl (by decide +kernel) ⟨Nat.le_of_ble_eq_true rfl, Nat.le_of_ble_eq_true rfl⟩) ⟨hP, hD, hS, hA, hE, hK, rfl, rfl, rfl, rfl, by decide⟩ (va_recv hK hP (ci := 8) (q0 := 0) rfl rfl) rfl hl.1 rfl (Nat.le_of_ble_eq_true rfl) dX8_ban_28 ⟨Nat.le_of_ble_eq_true rfl, Nat.le_of_ble_eq_true rfl⟩ (fun H locs hP hD hS hz => ?_)
  have hP : va_P G vwCl [(q 0, .inr (8, [.int (nI 0), .ref (q 2), .ref (q 3), .int (nI (mSvN sv)), .ref (q 5), .int (Z 0 5), .ref (q 7), .int (Z 0 7), .int (Z 0 8), .int (Z 0 9), .int (Z 0 10), .int (Z 0 11), .ref (q 13), .int (Z 0 13), .ref (q 15), .long g])), (q 2, .inl (T 0, 267, .inl (Z 2))), (q 3, .inl (T 0, 1602, .inl (mSvF ((Z 3)) ((Z 2)) sv))), (q 5, .inl (T 0, 267, .inl (Z 5))), (q 7, .inl (T 0, 60, .inl (Z 7))), (q 13, .inl (T 0, 8, .inl (Z 13))), (q 15, .inl (T 0, 3, .inl (Z 15)))] H := hP
  have hD : va_D A [(q 0, .inr (8, [.int (nI 0), .ref (q 2), .ref (q 3), .int (nI (mSvN sv)), .ref (q 5), .int (Z 0 5), .ref (q 7), .int (Z 0 7), .int (Z 0 8), .int (Z 0 9), .int (Z 0 10), .int (Z 0 11), .ref (q 13), .int (Z 0 13), .ref (q 15), .long g])), (q 2, .inl (T 0, 267, .inl (Z 2))), (q 3, .inl (T 0, 1602, .inl (mSvF ((Z 3)) ((Z 2)) sv))), (q 5, .inl (T 0, 267, .inl (Z 5))), (q 7, .inl (T 0, 60, .inl (Z 7))), (q 13, .inl (T 0, 8, .inl (Z 13))), (q 15, .inl (T 0, 3, .inl (Z 15)))] := hD
  refine lv_aload_n hx hb dX8_ban_31 rfl (lv_at hl 0 rfl) ?_
  refine va_get (D := G) (ci := 8) (v := .ref (q 2)) (C := RX8) (T := TX8) (N := 16) hx hb hts hinX8 hown hK hP 0 rfl rfl 1 (by decide) lk7 (fun _ h9 => h9) rfl dX8_ban_32 ?_
  refine lv_bipush (v := nI 44) hx hb dX8_ban_35 (by decide) ?_
  refine lv_iload_n hx hb dX8_ban_37 rfl (lv_at hl 1 rfl) ?_
  refine n_iadd (a := 44) (b := x) hx hb dX8_ban_38 ?_
  refine lv_dup2_11 hx hb dX8_ban_39 rfl rfl ?_
  refine n_iald hx hb hK hP 1 0 rfl rfl (44 + x) (by omega) (by decide) dX8_ban_40 ?_
  refine n_iconst hx hb 1 dX8_ban_41 (by decide) ?_
  refine lv_iload_n hx hb dX8_ban_42 rfl (lv_at hl 2 rfl) ?_
  refine x_ishl hx hb dX8_ban_43 ?_
  refine lv_ixor hx hb dX8_ban_44 ?_
  refine n_iast hx hb hK hP hD hS 1 0 rfl rfl (44 + x) (by omega) (by decide) dX8_ban_45 (fun H locs hP hD hS => ?_)
  have hP : va_P G vwCl [(q 0, .inr (8, [.int (nI 0), .ref (q 2), .ref (q 3), .int (nI (mSvN sv)), .ref (q 5), .int (Z 0 5), .ref (q 7), .int (Z 0 7), .int (Z 0 8), .int (Z 0 9), .int (Z 0 10), .int (Z 0 11), .ref (q 13), .int (Z 0 13), .ref (q 15), .long g])), (q 2, .inl (T 0, 267, .inl (upd (Z 2) (44 + x) (((Z 2) (44 + x)) ^^^ (iShl (nI 1) (nI mm)))))), (q 3, .inl (T 0, 1602, .inl (mSvF ((Z 3)) ((Z 2)) sv))), (q 5, .inl (T 0, 267, .inl (Z 5))), (q 7, .inl (T 0, 60, .inl (Z 7))), (q 13, .inl (T 0, 8, .inl (Z 13))), (q 15, .inl (T 0, 3, .inl (Z 15)))] H := hP
  have hD : va_D A [(q 0, .inr (8, [.int (nI 0), .ref (q 2), .ref (q 3), .int (nI (mSvN sv)), .ref (q 5), .int (Z 0 5), .ref (q 7), .int (Z 0 7), .int (Z 0 8), .int (Z 0 9), .int (Z 0 10), .int (Z 0 11), .ref (q 13), .int (Z 0 13), .ref (q 15), .long g])), (q 2, .inl (T 0, 267, .inl (upd (Z 2) (44 + x) (((Z 2) (44 + x)) ^^^ (iShl (nI 1) (nI mm)))))), (q 3, .inl (T 0, 1602, .inl (mSvF ((Z 3)) ((Z 2)) sv))), (q 5, .inl (T 0, 267, .inl (Z 5))), (q 7, .inl (T 0, 60, .inl (Z 7))), (q 13, .inl (T 0, 8, .inl (Z 13))), (q 15, .inl (T 0, 3, .inl (Z 15)))] := hD
  refine lv_aload_n hx hb dX8_ban_46 rfl (lv_at hl 0 rfl) ?_
  refine va_get (D := G) (ci := 8) (v := .ref (q 2)) (C := RX8) (T := TX8) (N := 16) hx hb hts hinX8 hown hK hP 0 rfl rfl 1 (by decide) lk7 (fun _ h9 => h9) rfl dX8_ban_47 ?_
  refine lv_bipush (v := nI 44) hx hb dX8_ban_50 (by decide) ?_
  refine lv_iload_n hx hb dX8_ban_52 rfl (lv_at hl 1 rfl) ?_
  refine n_iadd (a := 44) (b := x) hx hb dX8_ban_53 ?_
  refine n_iald hx hb hK hP 1 0 rfl rfl (44 + x) (by omega) (by decide) dX8_ban_54 ?_
  refine lv_iload_n hx hb dX8_ban_55 rfl (lv_at hl 2 rfl) ?_
  refine x_ishr hx hb dX8_ban_56 ?_
  refine n_iconst hx hb 1 dX8_ban_57 (by decide) ?_
  refine lv_iand hx hb dX8_ban_58 ?_
  subst hQ
  have e_5 : (upd (Z 2) (44 + x) (((Z 2) (44 + x)) ^^^ (iShl (nI 1) (nI mm)))) = upd (Z 2) (44 + x) (Z 2 (44 + x) ^^^ iShl (nI 1) (nI mm)) := (by first | rfl | simp [bI, c_2, c_3])
  have e_6 : (mSvF ((Z 3)) ((Z 2)) sv) = mSvF (Z 3) (Z 2) sv := (by first | rfl | simp [bI, c_2, c_3])
  rw [e_5, e_6] at hP hD
  have hP9 : va_P G vwCl (oX8 T q (sa (sa (sc (sc Z 0 (nI 0)) 3 (nI (mSvN sv))) 2 (upd (Z 2) (44 + x) (Z 2 (44 + x) ^^^ iShl (nI 1) (nI mm)))) 3 (mSvF (Z 3) (Z 2) sv)) g) H := hP
  have hD9 : va_D A (oX8 T q (sa (sa (sc (sc Z 0 (nI 0)) 3 (nI (mSvN sv))) 2 (upd (Z 2) (44 + x) (Z 2 (44 + x) ^^^ iShl (nI 1) (nI mm)))) 3 (mSvF (Z 3) (Z 2) sv)) g) := hD
  exact e_rwi hx hb hr hlocks hS rfl hP9 hD9 dX8_ban_59
set_option maxHeartbeats 4000000 in
set_option maxRecDepth 100000 in
theorem c_X8_bell (l : Launch) (G : va_G) (T : Nat → ClassId) (sz : Nat) (q : Nat → Nat) (Z : Nat → Nat → Int32) (g : Int64) (sv : Nat) (hsv : Z 0 3 = nI sv) (hsv6 : sv ≤ 6) : RWi l yX8_bell wsX8_bell 6 0 0 G T sz (oX8 T q Z g) [.ref (q 0)] (mRiF (Z 2) 6 0) (oX8 T q (sa (sa (sc (sc Z 0 (nI 0)) 3 (nI (mSvN sv))) 2 (mRiF (Z 2) 6)) 3 (mSvF (Z 3) (Z 2) sv)) g) := by
  refine Met.ofW (cc := cX8_bell) (maxL := 1) (ret := (some .int)) (by decide) rfl ?_
  intro p e s m args below meth c s₁ B hml hv
  obtain ⟨ha, hsz, hP, hK, hD0, hE0⟩ := hv
  have hx := B.exec
  have hb := B.bytes
  have hr := B.returns
  have hlocks := B.notSynchronized
  have hts := atoms_spec (ws := wsX8_bell) B.pre
  have hown : s.vm.findClass RX8 = some m.cls := findClass_of_methodNamed B.named
  have cx : CallFix p m c cX8_bell 1 s args wsX8_bell RX8 := ⟨hx, hb, hml, hown, hts⟩
  subst hsz
  have hD := hD0.self (sz := s.heap.size)
  generalize hAe : va_A (oX8 T q Z g) s.heap.size = A at hD hE0 ⊢
  have hE : gE A s s.heap := hE0
  have hA : ∀ q : Nat, s.heap.size ≤ q → A q := fun q h => by rw [← hAe]; exact Or.inr h
  have hS : va_S A s.heap s.heap [] := va_S.rf
  refine w_entry ha (Nat.le_of_ble_eq_true rfl) (fun ls hl => ?_)
  refine w_q (fun Q0 hQ => ?_)
  have lk28 := hts (.fieldLink RX8 28 "WhistleTunesModel" "thrown" "I") (by decide +kernel)
  have hinX8 : ∀ w ∈ wsX80, w ∈ wsX8_bell := by decide +kernel
  have hl : lv_has ls 1 [(0, .ref (q 0))] := hl
  have hP : va_P G vwCl [(q 0, .inr (8, [.int (Z 0 0), .ref (q 2), .ref (q 3), .int (Z 0 3), .ref (q 5), .int (Z 0 5), .ref (q 7), .int (Z 0 7), .int (Z 0 8), .int (Z 0 9), .int (Z 0 10), .int (Z 0 11), .ref (q 13), .int (Z 0 13), .ref (q 15), .long g])), (q 2, .inl (T 0, 267, .inl (Z 2))), (q 3, .inl (T 0, 1602, .inl (Z 3))), (q 5, .inl (T 0, 267, .inl (Z 5))), (q 7, .inl (T 0, 60, .inl (Z 7))), (q 13, .inl (T 0, 8, .inl (Z 13))), (q 15, .inl (T 0, 3, .inl (Z 15)))] s.heap := hP
  have hD : va_D A [(q 0, .inr (8, [.int (Z 0 0), .ref (q 2), .ref (q 3), .int (Z 0 3), .ref (q 5), .int (Z 0 5), .ref (q 7), .int (Z 0 7), .int (Z 0 8), .int (Z 0 9), .int (Z 0 10), .int (Z 0 11), .ref (q 13), .int (Z 0 13), .ref (q 15), .long g])), (q 2, .inl (T 0, 267, .inl (Z 2))), (q 3, .inl (T 0, 1602, .inl (Z 3))), (q 5, .inl (T 0, 267, .inl (Z 5))), (q 7, .inl (T 0, 60, .inl (Z 7))), (q 13, .inl (T 0, 8, .inl (Z 13))), (q 15, .inl (T 0, 3, .inl (Z 15)))] := hD
  skip
  refine w_h (fun H locs hHe hLe => ?_)
  have hP : va_P G vwCl [(q 0, .inr (8, [.int (Z 0 0), .ref (q 2), .ref (q 3), .int (Z 0 3), .ref (q 5), .int (Z 0 5), .ref (q 7), .int (Z 0 7), .int (Z 0 8), .int (Z 0 9), .int (Z 0 10), .int (Z 0 11), .ref (q 13), .int (Z 0 13), .ref (q 15), .long g])), (q 2, .inl (T 0, 267, .inl (Z 2))), (q 3, .inl (T 0, 1602, .inl (Z 3))), (q 5, .inl (T 0, 267, .inl (Z 5))), (q 7, .inl (T 0, 60, .inl (Z 7))), (q 13, .inl (T 0, 8, .inl (Z 13))), (q 15, .inl (T 0, 3, .inl (Z 15)))] H := by rw [hHe]; exact hP
  have hS : va_S A s.heap H locs := by rw [hHe, hLe]; exact hS
  refine lv_aload_n hx hb dX8_bell_0 rfl (lv_at hl 0 rfl) ?_
  refine n_iconst hx hb 0 dX8_bell_1 (by decide) ?_
  refine va_put (D := G) (ci := 8) (v := .int (nI 0)) (ty := .int) (C := RX8) (T := TX8) (N := 16) hx hb hts hinX8 tyX8 tyX8_ok nmX8 hown hK hP hD hS 0 rfl rfl 0 (by decide) lk28 (fun _ h9 => h9) rfl (by decide +kernel) rfl rfl (Nat.le_of_ble_eq_true rfl) dX8_bell_2 (fun H locs hP hD hS => ?_)
  have hP : va_P G vwCl [(q 0, .inr (8, [.int (nI 0), .ref (q 2), .ref (q 3), .int (Z 0 3), .ref (q 5), .int (Z 0 5), .ref (q 7), .int (Z 0 7), .int (Z 0 8), .int (Z 0 9), .int (Z 0 10), .int (Z 0 11), .ref (q 13), .int (Z 0 13), .ref (q 15), .long g])), (q 2, .inl (T 0, 267, .inl (Z 2))), (q 3, .inl (T 0, 1602, .inl (Z 3))), (q 5, .inl (T 0, 267, .inl (Z 5))), (q 7, .inl (T 0, 60, .inl (Z 7))), (q 13, .inl (T 0, 8, .inl (Z 13))), (q 15, .inl (T 0, 3, .inl (Z 15)))] H := hP
  have hD : va_D A [(q 0, .inr (8, [.int (nI 0), .ref (q 2), .ref (q 3), .int (Z 0 3), .ref (q 5), .int (Z 0 5), .ref (q 7), .int (Z 0 7), .int (Z 0 8), .int (Z 0 9), .int (Z 0 10), .int (Z 0 11), .ref (q 13), .int (Z 0 13), .ref (q 15), .long g])), (q 2, .inl (T 0, 267, .inl (Z 2))), (q 3, .inl (T 0, 1602, .inl (Z 3))), (q 5, .inl (T 0, 267, .inl (Z 5))), (q 7, .inl (T 0, 60, .inl (Z 7))), (q 13, .inl (T 0, 8, .inl (Z 13))), (q 15, .inl (T 0, 3, .inl (Z 15)))] := hD
  refine lv_aload_n hx hb dX8_bell_5 rfl (lv_at hl 0 rfl) ?_
  refine k_rvV (As := []) (rest := []) (wc := oX8 T q (sc Z 0 (nI 0)) g) (wr := []) (w1 := oX8 T q (sa (sc (sc Z 0 (nI 0)) 3 (nI (mSvN sv))) 3 (mSvF ((sc Z 0 (nI 0)) 3) ((sc Z 0 (nI 0)) 2) sv)) g) (d := 0) (mc := 0) (ms := 0) (isC := [0, 1, 2, 3, 4, 5, 6]) (isR := []) cx (c_X8_save l G T H.size q (sc Z 0 (nI 0)) g sv (by first | assumption | rfl | omega) (by omega)) (cwV 0 hts gX8_bell_X8_save rfl rfl rfl (by decide +kernel) ⟨Nat.le_of_ble_eq_true rfl, Nat.le_of_ble_eq_true rfl⟩) ⟨hP, hD, hS, hA, hE, hK, rfl, rfl, rfl, rfl, by decide⟩ (va_recv hK hP (ci := 8) (q0 := 0) rfl rfl) rfl hl.1 rfl (Nat.le_of_ble_eq_true rfl) dX8_bell_6 ⟨Nat.le_of_ble_eq_true rfl, Nat.le_of_ble_eq_true rfl⟩ (fun H locs hP hD hS hz => ?_)
  have hP : va_P G vwCl [(q 0, .inr (8, [.int (nI 0), .ref (q 2), .ref (q 3), .int (nI (mSvN sv)), .ref (q 5), .int (Z 0 5), .ref (q 7), .int (Z 0 7), .int (Z 0 8), .int (Z 0 9), .int (Z 0 10), .int (Z 0 11), .ref (q 13), .int (Z 0 13), .ref (q 15), .long g])), (q 2, .inl (T 0, 267, .inl (Z 2))), (q 3, .inl (T 0, 1602, .inl (mSvF ((Z 3)) ((Z 2)) sv))), (q 5, .inl (T 0, 267, .inl (Z 5))), (q 7, .inl (T 0, 60, .inl (Z 7))), (q 13, .inl (T 0, 8, .inl (Z 13))), (q 15, .inl (T 0, 3, .inl (Z 15)))] H := hP
  have hD : va_D A [(q 0, .inr (8, [.int (nI 0), .ref (q 2), .ref (q 3), .int (nI (mSvN sv)), .ref (q 5), .int (Z 0 5), .ref (q 7), .int (Z 0 7), .int (Z 0 8), .int (Z 0 9), .int (Z 0 10), .int (Z 0 11), .ref (q 13), .int (Z 0 13), .ref (q 15), .long g])), (q 2, .inl (T 0, 267, .inl (Z 2))), (q 3, .inl (T 0, 1602, .inl (mSvF ((Z 3)) ((Z 2)) sv))), (q 5, .inl (T 0, 267, .inl (Z 5))), (q 7, .inl (T 0, 60, .inl (Z 7))), (q 13, .inl (T 0, 8, .inl (Z 13))), (q 15, .inl (T 0, 3, .inl (Z 15)))] := hD
  refine lv_aload_n hx hb dX8_bell_9 rfl (lv_at hl 0 rfl) ?_
  refine k_rwV (As := []) (rest := []) (wc := oX8 T q (sa (sc (sc Z 0 (nI 0)) 3 (nI (mSvN sv))) 3 (mSvF ((Z 3)) ((Z 2)) sv)) g) (wr := []) (w1 := oX8 T q (sa (sa (sc (sc Z 0 (nI 0)) 3 (nI (mSvN sv))) 3 (mSvF ((Z 3)) ((Z 2)) sv)) 2 (mRiF ((sa (sc (sc Z 0 (nI 0)) 3 (nI (mSvN sv))) 3 (mSvF ((Z 3)) ((Z 2)) sv)) 2) 6)) g) (d := 0) (mc := 0) (ms := 0) (v := mRiF ((Z 2)) 6 0) (isC := [0, 1, 2, 3, 4, 5, 6]) (isR := []) cx (c_X8_rings l G T H.size q (sa (sc (sc Z 0 (nI 0)) 3 (nI (mSvN sv))) 3 (mSvF ((Z 3)) ((Z 2)) sv)) g ) (cwV 0 hts gX8_bell_X8_rings rfl rfl rfl (by decide +kernel) ⟨Nat.le_of_ble_eq_true rfl, Nat.le_of_ble_eq_true rfl⟩) ⟨hP, hD, hS, hA, hE, hK, rfl, rfl, rfl, rfl, by decide⟩ (va_recv hK hP (ci := 8) (q0 := 0) rfl rfl) rfl hl.1 rfl (Nat.le_of_ble_eq_true rfl) dX8_bell_10 ⟨Nat.le_of_ble_eq_true rfl, Nat.le_of_ble_eq_true rfl⟩ (fun H locs hP hD hS hz => ?_)
  have hP : va_P G vwCl [(q 0, .inr (8, [.int (nI 0), .ref (q 2), .ref (q 3), .int (nI (mSvN sv)), .ref (q 5), .int (Z 0 5), .ref (q 7), .int (Z 0 7), .int (Z 0 8), .int (Z 0 9), .int (Z 0 10), .int (Z 0 11), .ref (q 13), .int (Z 0 13), .ref (q 15), .long g])), (q 2, .inl (T 0, 267, .inl (mRiF ((Z 2)) 6))), (q 3, .inl (T 0, 1602, .inl (mSvF ((Z 3)) ((Z 2)) sv))), (q 5, .inl (T 0, 267, .inl (Z 5))), (q 7, .inl (T 0, 60, .inl (Z 7))), (q 13, .inl (T 0, 8, .inl (Z 13))), (q 15, .inl (T 0, 3, .inl (Z 15)))] H := hP
  have hD : va_D A [(q 0, .inr (8, [.int (nI 0), .ref (q 2), .ref (q 3), .int (nI (mSvN sv)), .ref (q 5), .int (Z 0 5), .ref (q 7), .int (Z 0 7), .int (Z 0 8), .int (Z 0 9), .int (Z 0 10), .int (Z 0 11), .ref (q 13), .int (Z 0 13), .ref (q 15), .long g])), (q 2, .inl (T 0, 267, .inl (mRiF ((Z 2)) 6))), (q 3, .inl (T 0, 1602, .inl (mSvF ((Z 3)) ((Z 2)) sv))), (q 5, .inl (T 0, 267, .inl (Z 5))), (q 7, .inl (T 0, 60, .inl (Z 7))), (q 13, .inl (T 0, 8, .inl (Z 13))), (q 15, .inl (T 0, 3, .inl (Z 15)))] := hD
  subst hQ
  have e_1 : (mRiF ((Z 2)) 6) = mRiF (Z 2) 6 := (by first | rfl | simp [bI])
  have e_2 : (mSvF ((Z 3)) ((Z 2)) sv) = mSvF (Z 3) (Z 2) sv := (by first | rfl | simp [bI])
  rw [e_2, e_1] at hP hD
  have hP9 : va_P G vwCl (oX8 T q (sa (sa (sc (sc Z 0 (nI 0)) 3 (nI (mSvN sv))) 2 (mRiF (Z 2) 6)) 3 (mSvF (Z 3) (Z 2) sv)) g) H := hP
  have hD9 : va_D A (oX8 T q (sa (sa (sc (sc Z 0 (nI 0)) 3 (nI (mSvN sv))) 2 (mRiF (Z 2) 6)) 3 (mSvF (Z 3) (Z 2) sv)) g) := hD
  exact e_rwi hx hb hr hlocks hS (by first | rfl | simp [bI]) hP9 hD9 dX8_bell_13
set_option maxHeartbeats 4000000 in
set_option maxRecDepth 100000 in
theorem c_X8_set (l : Launch) (G : va_G) (T : Nat → ClassId) (sz : Nat) (q : Nat → Nat) (Z : Nat → Nat → Int32) (g : Int64) (r : Nat) (x : Nat) (sv : Nat) (hr2 : r < 2) (hx1 : r ≤ x) (hx2 : x ≤ (if r = 0 then 2 else 9)) (hsv : Z 0 3 = nI sv) (hsv6 : sv ≤ 6) : RWi l yX8_set wsX8_set 6 0 0 G T sz (oX8 T q Z g) [.ref (q 0), .int (nI r), .int (nI x)] (Z 2 (3 + r)) (oX8 T q (sa (sa (sc (sc Z 0 (nI 0)) 3 (nI (mSvN sv))) 2 (upd (Z 2) (3 + r) (nI x))) 3 (mSvF (Z 3) (Z 2) sv)) g) := by
  refine Met.ofW (cc := cX8_set) (maxL := 4) (ret := (some .int)) (by decide) rfl ?_
  intro p e s m args below meth c s₁ B hml hv
  obtain ⟨ha, hsz, hP, hK, hD0, hE0⟩ := hv
  have hx := B.exec
  have hb := B.bytes
  have hr := B.returns
  have hlocks := B.notSynchronized
  have hts := atoms_spec (ws := wsX8_set) B.pre
  have hown : s.vm.findClass RX8 = some m.cls := findClass_of_methodNamed B.named
  have cx : CallFix p m c cX8_set 4 s args wsX8_set RX8 := ⟨hx, hb, hml, hown, hts⟩
  subst hsz
  have hD := hD0.self (sz := s.heap.size)
  generalize hAe : va_A (oX8 T q Z g) s.heap.size = A at hD hE0 ⊢
  have hE : gE A s s.heap := hE0
  have hA : ∀ q : Nat, s.heap.size ≤ q → A q := fun q h => by rw [← hAe]; exact Or.inr h
  have hS : va_S A s.heap s.heap [] := va_S.rf
  refine w_entry ha (Nat.le_of_ble_eq_true rfl) (fun ls hl => ?_)
  refine w_q (fun Q0 hQ => ?_)
  have lk28 := hts (.fieldLink RX8 28 "WhistleTunesModel" "thrown" "I") (by decide +kernel)
  have hinX8 : ∀ w ∈ wsX80, w ∈ wsX8_set := by decide +kernel
  have lk7 := hts (.fieldLink RX8 7 "WhistleTunesModel" "state" "[I") (by decide +kernel)
  have hl : lv_has ls 4 [(0, .ref (q 0)), (1, .int (nI r)), (2, .int (nI x))] := hl
  have hP : va_P G vwCl [(q 0, .inr (8, [.int (Z 0 0), .ref (q 2), .ref (q 3), .int (Z 0 3), .ref (q 5), .int (Z 0 5), .ref (q 7), .int (Z 0 7), .int (Z 0 8), .int (Z 0 9), .int (Z 0 10), .int (Z 0 11), .ref (q 13), .int (Z 0 13), .ref (q 15), .long g])), (q 2, .inl (T 0, 267, .inl (Z 2))), (q 3, .inl (T 0, 1602, .inl (Z 3))), (q 5, .inl (T 0, 267, .inl (Z 5))), (q 7, .inl (T 0, 60, .inl (Z 7))), (q 13, .inl (T 0, 8, .inl (Z 13))), (q 15, .inl (T 0, 3, .inl (Z 15)))] s.heap := hP
  have hD : va_D A [(q 0, .inr (8, [.int (Z 0 0), .ref (q 2), .ref (q 3), .int (Z 0 3), .ref (q 5), .int (Z 0 5), .ref (q 7), .int (Z 0 7), .int (Z 0 8), .int (Z 0 9), .int (Z 0 10), .int (Z 0 11), .ref (q 13), .int (Z 0 13), .ref (q 15), .long g])), (q 2, .inl (T 0, 267, .inl (Z 2))), (q 3, .inl (T 0, 1602, .inl (Z 3))), (q 5, .inl (T 0, 267, .inl (Z 5))), (q 7, .inl (T 0, 60, .inl (Z 7))), (q 13, .inl (T 0, 8, .inl (Z 13))), (q 15, .inl (T 0, 3, .inl (Z 15)))] := hD
  skip
  refine w_h (fun H locs hHe hLe => ?_)
  have hP : va_P G vwCl [(q 0, .inr (8, [.int (Z 0 0), .ref (q 2), .ref (q 3), .int (Z 0 3), .ref (q 5), .int (Z 0 5), .ref (q 7), .int (Z 0 7), .int (Z 0 8), .int (Z 0 9), .int (Z 0 10), .int (Z 0 11), .ref (q 13), .int (Z 0 13), .ref (q 15), .long g])), (q 2, .inl (T 0, 267, .inl (Z 2))), (q 3, .inl (T 0, 1602, .inl (Z 3))), (q 5, .inl (T 0, 267, .inl (Z 5))), (q 7, .inl (T 0, 60, .inl (Z 7))), (q 13, .inl (T 0, 8, .inl (Z 13))), (q 15, .inl (T 0, 3, .inl (Z 15)))] H := by rw [hHe]; exact hP
  have hS : va_S A s.heap H locs := by rw [hHe, hLe]; exact hS
  refine lv_aload_n hx hb dX8_set_0 rfl (lv_at hl 0 rfl) ?_
  refine n_iconst hx hb 0 dX8_set_1 (by decide) ?_
  refine va_put (D := G) (ci := 8) (v := .int (nI 0)) (ty := .int) (C := RX8) (T := TX8) (N := 16) hx hb hts hinX8 tyX8 tyX8_ok nmX8 hown hK hP hD hS 0 rfl rfl 0 (by decide) lk28 (fun _ h9 => h9) rfl (by decide +kernel) rfl rfl (Nat.le_of_ble_eq_true rfl) dX8_set_2 (fun H locs hP hD hS => ?_)
  have hP : va_P G vwCl [(q 0, .inr (8, [.int (nI 0), .ref (q 2), .ref (q 3), .int (Z 0 3), .ref (q 5), .int (Z 0 5), .ref (q 7), .int (Z 0 7), .int (Z 0 8), .int (Z 0 9), .int (Z 0 10), .int (Z 0 11), .ref (q 13), .int (Z 0 13), .ref (q 15), .long g])), (q 2, .inl (T 0, 267, .inl (Z 2))), (q 3, .inl (T 0, 1602, .inl (Z 3))), (q 5, .inl (T 0, 267, .inl (Z 5))), (q 7, .inl (T 0, 60, .inl (Z 7))), (q 13, .inl (T 0, 8, .inl (Z 13))), (q 15, .inl (T 0, 3, .inl (Z 15)))] H := hP
  have hD : va_D A [(q 0, .inr (8, [.int (nI 0), .ref (q 2), .ref (q 3), .int (Z 0 3), .ref (q 5), .int (Z 0 5), .ref (q 7), .int (Z 0 7), .int (Z 0 8), .int (Z 0 9), .int (Z 0 10), .int (Z 0 11), .ref (q 13), .int (Z 0 13), .ref (q 15), .long g])), (q 2, .inl (T 0, 267, .inl (Z 2))), (q 3, .inl (T 0, 1602, .inl (Z 3))), (q 5, .inl (T 0, 267, .inl (Z 5))), (q 7, .inl (T 0, 60, .inl (Z 7))), (q 13, .inl (T 0, 8, .inl (Z 13))), (q 15, .inl (T 0, 3, .inl (Z 15)))] := hD
  refine lv_iload_n hx hb dX8_set_5 rfl (lv_at hl 1 rfl) ?_
  refine n_iconst hx hb 0 dX8_set_6 (by decide) ?_
  refine n_iconst hx hb 1 dX8_set_7 (by decide) ?_
  refine k_roS (As := [.int (nI r), .int (nI 0), .int (nI 1)]) (rest := []) (wc := []) (d := 0) (v := bI (pWi (nI r) (nI 0) (nI 1))) cx (c_X8_within l G T A (nI r) (nI 0) (nI 1) ) (va_cwS 3 hts gX8_set_X8_within rfl rfl rfl (by decide +kernel) ⟨Nat.le_of_ble_eq_true rfl, Nat.le_of_ble_eq_true rfl⟩) (hP.sub (ws' := []) [] rfl) hK (hE.kept hS.2.1) rfl hl.1 rfl (Nat.le_of_ble_eq_true rfl) dX8_set_8 ⟨Nat.le_of_ble_eq_true rfl, Nat.le_of_ble_eq_true rfl⟩ ?_
  refine b_if_ne (b := pWi (nI r) (nI 0) (nI 1)) (tgt := 20) hx hb dX8_set_11 (by decide) (fun c_1 => ?_) (fun c_2 => by exfalso; rw [pWi_n (by omega) (by omega) (by decide)] at c_2; cases c_2)
  refine lv_iload_n hx hb dX8_set_20 rfl (lv_at hl 2 rfl) ?_
  refine lv_iload_n hx hb dX8_set_21 rfl (lv_at hl 1 rfl) ?_
  refine lv_iload_n hx hb dX8_set_22 rfl (lv_at hl 1 rfl) ?_
  have J_3 : ∀ y9 : Int32, y9 = (nI (if r = 0 then 2 else 9)) → W p l e (headSpec wsX8_set (rmD 6 0 0)).room s m args below meth c H locs 0 0 Q0 (F0 m 32 ls (.int y9 :: .int (nI r) :: .int (nI x) :: [])) := by
    intro y9 hy9
    subst hy9
    refine k_roS (As := [.int (nI x), .int (nI r), .int (nI (if r = 0 then 2 else 9))]) (rest := []) (wc := []) (d := 0) (v := bI (pWi (nI x) (nI r) (nI (if r = 0 then 2 else 9)))) cx (c_X8_within l G T A (nI x) (nI r) (nI (if r = 0 then 2 else 9)) ) (va_cwS 3 hts gX8_set_X8_within rfl rfl rfl (by decide +kernel) ⟨Nat.le_of_ble_eq_true rfl, Nat.le_of_ble_eq_true rfl⟩) (hP.sub (ws' := []) [] rfl) hK (hE.kept hS.2.1) rfl hl.1 rfl (Nat.le_of_ble_eq_true rfl) dX8_set_32 ⟨Nat.le_of_ble_eq_true rfl, Nat.le_of_ble_eq_true rfl⟩ ?_
    refine b_if_ne (b := pWi (nI x) (nI r) (nI (if r = 0 then 2 else 9))) (tgt := 44) hx hb dX8_set_35 (by decide) (fun c_4 => ?_) (fun c_5 => by exfalso; rw [pWi_n (by omega) hx2 (by split <;> decide)] at c_5; cases c_5)
    refine lv_aload_n hx hb dX8_set_44 rfl (lv_at hl 0 rfl) ?_
    refine k_rvV (As := []) (rest := []) (wc := oX8 T q (sc Z 0 (nI 0)) g) (wr := []) (w1 := oX8 T q (sa (sc (sc Z 0 (nI 0)) 3 (nI (mSvN sv))) 3 (mSvF ((sc Z 0 (nI 0)) 3) ((sc Z 0 (nI 0)) 2) sv)) g) (d := 0) (mc := 0) (ms := 0) (isC := [0, 1, 2, 3, 4, 5, 6]) (isR := []) cx (c_X8_save l G T H.size q (sc Z 0 (nI 0)) g sv (by first | assumption | rfl | omega) (by omega)) (cwV 0 hts gX8_set_X8_save rfl rfl rfl (by decide +kernel) ⟨Nat.le_of_ble_eq_true rfl, Nat.le_of_ble_eq_true rfl⟩) ⟨hP, hD, hS, hA, hE, hK, rfl, rfl, rfl, rfl, by decide⟩ (va_recv hK hP (ci := 8) (q0 := 0) rfl rfl) rfl hl.1 rfl (Nat.le_of_ble_eq_true rfl) dX8_set_45 ⟨Nat.le_of_ble_eq_true rfl, Nat.le_of_ble_eq_true rfl⟩ (fun H locs hP hD hS hz => ?_)
    have hP : va_P G vwCl [(q 0, .inr (8, [.int (nI 0), .ref (q 2), .ref (q 3), .int (nI (mSvN sv)), .ref (q 5), .int (Z 0 5), .ref (q 7), .int (Z 0 7), .int (Z 0 8), .int (Z 0 9), .int (Z 0 10), .int (Z 0 11), .ref (q 13), .int (Z 0 13), .ref (q 15), .long g])), (q 2, .inl (T 0, 267, .inl (Z 2))), (q 3, .inl (T 0, 1602, .inl (mSvF ((Z 3)) ((Z 2)) sv))), (q 5, .inl (T 0, 267, .inl (Z 5))), (q 7, .inl (T 0, 60, .inl (Z 7))), (q 13, .inl (T 0, 8, .inl (Z 13))), (q 15, .inl (T 0, 3, .inl (Z 15)))] H := hP
    have hD : va_D A [(q 0, .inr (8, [.int (nI 0), .ref (q 2), .ref (q 3), .int (nI (mSvN sv)), .ref (q 5), .int (Z 0 5), .ref (q 7), .int (Z 0 7), .int (Z 0 8), .int (Z 0 9), .int (Z 0 10), .int (Z 0 11), .ref (q 13), .int (Z 0 13), .ref (q 15), .long g])), (q 2, .inl (T 0, 267, .inl (Z 2))), (q 3, .inl (T 0, 1602, .inl (mSvF ((Z 3)) ((Z 2)) sv))), (q 5, .inl (T 0, 267, .inl (Z 5))), (q 7, .inl (T 0, 60, .inl (Z 7))), (q 13, .inl (T 0, 8, .inl (Z 13))), (q 15, .inl (T 0, 3, .inl (Z 15)))] := hD
    refine lv_aload_n hx hb dX8_set_48 rfl (lv_at hl 0 rfl) ?_
    refine va_get (D := G) (ci := 8) (v := .ref (q 2)) (C := RX8) (T := TX8) (N := 16) hx hb hts hinX8 hown hK hP 0 rfl rfl 1 (by decide) lk7 (fun _ h9 => h9) rfl dX8_set_49 ?_
    refine n_iconst hx hb 3 dX8_set_52 (by decide) ?_
    refine lv_iload_n hx hb dX8_set_53 rfl (lv_at hl 1 rfl) ?_
    refine n_iadd (a := 3) (b := r) hx hb dX8_set_54 ?_
    refine n_iald hx hb hK hP 1 0 rfl rfl (3 + r) (by omega) (by decide) dX8_set_55 ?_
    refine lv_istore_n (lv' := [(3, .int ((Z 2) (3 + r))), (0, .ref (q 0)), (1, .int (nI r)), (2, .int (nI x))]) hx hb dX8_set_56 rfl hl (by decide) rfl (fun ls hl => ?_)
    refine lv_aload_n hx hb dX8_set_57 rfl (lv_at hl 1 rfl) ?_
    refine va_get (D := G) (ci := 8) (v := .ref (q 2)) (C := RX8) (T := TX8) (N := 16) hx hb hts hinX8 hown hK hP 0 rfl rfl 1 (by decide) lk7 (fun _ h9 => h9) rfl dX8_set_58 ?_
    refine n_iconst hx hb 3 dX8_set_61 (by decide) ?_
    refine lv_iload_n hx hb dX8_set_62 rfl (lv_at hl 2 rfl) ?_
    refine n_iadd (a := 3) (b := r) hx hb dX8_set_63 ?_
    refine lv_iload_n hx hb dX8_set_64 rfl (lv_at hl 3 rfl) ?_
    refine n_iast hx hb hK hP hD hS 1 0 rfl rfl (3 + r) (by omega) (by decide) dX8_set_65 (fun H locs hP hD hS => ?_)
    have hP : va_P G vwCl [(q 0, .inr (8, [.int (nI 0), .ref (q 2), .ref (q 3), .int (nI (mSvN sv)), .ref (q 5), .int (Z 0 5), .ref (q 7), .int (Z 0 7), .int (Z 0 8), .int (Z 0 9), .int (Z 0 10), .int (Z 0 11), .ref (q 13), .int (Z 0 13), .ref (q 15), .long g])), (q 2, .inl (T 0, 267, .inl (upd (Z 2) (3 + r) (nI x)))), (q 3, .inl (T 0, 1602, .inl (mSvF ((Z 3)) ((Z 2)) sv))), (q 5, .inl (T 0, 267, .inl (Z 5))), (q 7, .inl (T 0, 60, .inl (Z 7))), (q 13, .inl (T 0, 8, .inl (Z 13))), (q 15, .inl (T 0, 3, .inl (Z 15)))] H := hP
    have hD : va_D A [(q 0, .inr (8, [.int (nI 0), .ref (q 2), .ref (q 3), .int (nI (mSvN sv)), .ref (q 5), .int (Z 0 5), .ref (q 7), .int (Z 0 7), .int (Z 0 8), .int (Z 0 9), .int (Z 0 10), .int (Z 0 11), .ref (q 13), .int (Z 0 13), .ref (q 15), .long g])), (q 2, .inl (T 0, 267, .inl (upd (Z 2) (3 + r) (nI x)))), (q 3, .inl (T 0, 1602, .inl (mSvF ((Z 3)) ((Z 2)) sv))), (q 5, .inl (T 0, 267, .inl (Z 5))), (q 7, .inl (T 0, 60, .inl (Z 7))), (q 13, .inl (T 0, 8, .inl (Z 13))), (q 15, .inl (T 0, 3, .inl (Z 15)))] := hD
    refine lv_iload_n hx hb dX8_set_66 rfl (lv_at hl 0 rfl) ?_
    subst hQ
    have e_6 : (mSvF ((Z 3)) ((Z 2)) sv) = mSvF (Z 3) (Z 2) sv := (by first | rfl | simp [bI, c_1, c_4])
    rw [e_6] at hP hD
    have hP9 : va_P G vwCl (oX8 T q (sa (sa (sc (sc Z 0 (nI 0)) 3 (nI (mSvN sv))) 2 (upd (Z 2) (3 + r) (nI x))) 3 (mSvF (Z 3) (Z 2) sv)) g) H := hP
    have hD9 : va_D A (oX8 T q (sa (sa (sc (sc Z 0 (nI 0)) 3 (nI (mSvN sv))) 2 (upd (Z 2) (3 + r) (nI x))) 3 (mSvF (Z 3) (Z 2) sv)) g) := hD
    exact e_rwi hx hb hr hlocks hS (by first | rfl | simp [bI, c_1, c_4]) hP9 hD9 dX8_set_67
  refine n_if_ne (a := r) (tgt := 30) hx hb (by omega) dX8_set_23 (by decide) (fun c_7 => ?_) (fun c_8 => ?_)
  · skip
    refine lv_bipush (v := nI 9) hx hb dX8_set_30 (by decide) ?_
    exact J_3 _ (by first | rw [if_pos c_7] | rw [if_neg c_7])
  · skip
    refine n_iconst hx hb 2 dX8_set_26 (by decide) ?_
    refine lv_goto (tgt := 32) hx hb dX8_set_27 (by decide) ?_
    exact J_3 _ (by first | rw [if_pos c_8] | rw [if_neg c_8])
set_option maxHeartbeats 4000000 in
set_option maxRecDepth 100000 in
theorem c_X8_whistle (l : Launch) (G : va_G) (T : Nat → ClassId) (sz : Nat) (q : Nat → Nat) (Z : Nat → Nat → Int32) (g : Int64) (r : Nat) (mm : Nat) (sv : Nat) (hr6 : r < 6) (hm20 : mm < 20) (hsv : Z 0 3 = nI sv) (hsv6 : sv ≤ 6) (hno : mWy (sc Z 0 (nI 0)) r mm = 0) : RWi l yX8_whistle wsX8_whistle 7 0 0 G T sz (oX8 T q Z g) [.ref (q 0), .int (nI r), .int (nI mm)] (mOn (mKn (svZ Z sv) r 6) 6) (oX8 T q (sa (sa (sc (sc Z 0 (nI 0)) 3 (nI (mSvN sv))) 2 (mWhF (svZ Z sv) r mm)) 3 (mSvF (Z 3) (Z 2) sv)) g) := by
  refine Met.ofW (cc := cX8_whistle) (maxL := 3) (ret := (some .int)) (by decide) rfl ?_
  intro p e s m args below meth c s₁ B hml hv
  obtain ⟨ha, hsz, hP, hK, hD0, hE0⟩ := hv
  have hx := B.exec
  have hb := B.bytes
  have hr := B.returns
  have hlocks := B.notSynchronized
  have hts := atoms_spec (ws := wsX8_whistle) B.pre
  have hown : s.vm.findClass RX8 = some m.cls := findClass_of_methodNamed B.named
  have cx : CallFix p m c cX8_whistle 3 s args wsX8_whistle RX8 := ⟨hx, hb, hml, hown, hts⟩
  subst hsz
  have hD := hD0.self (sz := s.heap.size)
  generalize hAe : va_A (oX8 T q Z g) s.heap.size = A at hD hE0 ⊢
  have hE : gE A s s.heap := hE0
  have hA : ∀ q : Nat, s.heap.size ≤ q → A q := fun q h => by rw [← hAe]; exact Or.inr h
  have hS : va_S A s.heap s.heap [] := va_S.rf
  refine w_entry ha (Nat.le_of_ble_eq_true rfl) (fun ls hl => ?_)
  refine w_q (fun Q0 hQ => ?_)
  have lk28 := hts (.fieldLink RX8 28 "WhistleTunesModel" "thrown" "I") (by decide +kernel)
  have hinX8 : ∀ w ∈ wsX80, w ∈ wsX8_whistle := by decide +kernel
  have hl : lv_has ls 3 [(0, .ref (q 0)), (1, .int (nI r)), (2, .int (nI mm))] := hl
  have hP : va_P G vwCl [(q 0, .inr (8, [.int (Z 0 0), .ref (q 2), .ref (q 3), .int (Z 0 3), .ref (q 5), .int (Z 0 5), .ref (q 7), .int (Z 0 7), .int (Z 0 8), .int (Z 0 9), .int (Z 0 10), .int (Z 0 11), .ref (q 13), .int (Z 0 13), .ref (q 15), .long g])), (q 2, .inl (T 0, 267, .inl (Z 2))), (q 3, .inl (T 0, 1602, .inl (Z 3))), (q 5, .inl (T 0, 267, .inl (Z 5))), (q 7, .inl (T 0, 60, .inl (Z 7))), (q 13, .inl (T 0, 8, .inl (Z 13))), (q 15, .inl (T 0, 3, .inl (Z 15)))] s.heap := hP
  have hD : va_D A [(q 0, .inr (8, [.int (Z 0 0), .ref (q 2), .ref (q 3), .int (Z 0 3), .ref (q 5), .int (Z 0 5), .ref (q 7), .int (Z 0 7), .int (Z 0 8), .int (Z 0 9), .int (Z 0 10), .int (Z 0 11), .ref (q 13), .int (Z 0 13), .ref (q 15), .long g])), (q 2, .inl (T 0, 267, .inl (Z 2))), (q 3, .inl (T 0, 1602, .inl (Z 3))), (q 5, .inl (T 0, 267, .inl (Z 5))), (q 7, .inl (T 0, 60, .inl (Z 7))), (q 13, .inl (T 0, 8, .inl (Z 13))), (q 15, .inl (T 0, 3, .inl (Z 15)))] := hD
  skip
  refine w_h (fun H locs hHe hLe => ?_)
  have hP : va_P G vwCl [(q 0, .inr (8, [.int (Z 0 0), .ref (q 2), .ref (q 3), .int (Z 0 3), .ref (q 5), .int (Z 0 5), .ref (q 7), .int (Z 0 7), .int (Z 0 8), .int (Z 0 9), .int (Z 0 10), .int (Z 0 11), .ref (q 13), .int (Z 0 13), .ref (q 15), .long g])), (q 2, .inl (T 0, 267, .inl (Z 2))), (q 3, .inl (T 0, 1602, .inl (Z 3))), (q 5, .inl (T 0, 267, .inl (Z 5))), (q 7, .inl (T 0, 60, .inl (Z 7))), (q 13, .inl (T 0, 8, .inl (Z 13))), (q 15, .inl (T 0, 3, .inl (Z 15)))] H := by rw [hHe]; exact hP
  have hS : va_S A s.heap H locs := by rw [hHe, hLe]; exact hS
  refine lv_aload_n hx hb dX8_whistle_0 rfl (lv_at hl 0 rfl) ?_
  refine n_iconst hx hb 0 dX8_whistle_1 (by decide) ?_
  refine va_put (D := G) (ci := 8) (v := .int (nI 0)) (ty := .int) (C := RX8) (T := TX8) (N := 16) hx hb hts hinX8 tyX8 tyX8_ok nmX8 hown hK hP hD hS 0 rfl rfl 0 (by decide) lk28 (fun _ h9 => h9) rfl (by decide +kernel) rfl rfl (Nat.le_of_ble_eq_true rfl) dX8_whistle_2 (fun H locs hP hD hS => ?_)
  have hP : va_P G vwCl [(q 0, .inr (8, [.int (nI 0), .ref (q 2), .ref (q 3), .int (Z 0 3), .ref (q 5), .int (Z 0 5), .ref (q 7), .int (Z 0 7), .int (Z 0 8), .int (Z 0 9), .int (Z 0 10), .int (Z 0 11), .ref (q 13), .int (Z 0 13), .ref (q 15), .long g])), (q 2, .inl (T 0, 267, .inl (Z 2))), (q 3, .inl (T 0, 1602, .inl (Z 3))), (q 5, .inl (T 0, 267, .inl (Z 5))), (q 7, .inl (T 0, 60, .inl (Z 7))), (q 13, .inl (T 0, 8, .inl (Z 13))), (q 15, .inl (T 0, 3, .inl (Z 15)))] H := hP
  have hD : va_D A [(q 0, .inr (8, [.int (nI 0), .ref (q 2), .ref (q 3), .int (Z 0 3), .ref (q 5), .int (Z 0 5), .ref (q 7), .int (Z 0 7), .int (Z 0 8), .int (Z 0 9), .int (Z 0 10), .int (Z 0 11), .ref (q 13), .int (Z 0 13), .ref (q 15), .long g])), (q 2, .inl (T 0, 267, .inl (Z 2))), (q 3, .inl (T 0, 1602, .inl (Z 3))), (q 5, .inl (T 0, 267, .inl (Z 5))), (q 7, .inl (T 0, 60, .inl (Z 7))), (q 13, .inl (T 0, 8, .inl (Z 13))), (q 15, .inl (T 0, 3, .inl (Z 15)))] := hD
  refine lv_iload_n hx hb dX8_whistle_5 rfl (lv_at hl 1 rfl) ?_
  refine k_roS (As := [.int (nI r)]) (rest := []) (wc := []) (d := 1) (v := bI (pWi (nI r) (nI 0) (nI 5))) cx (c_X8_isRoom l G T A (nI r) ) (va_cwS 1 hts gX8_whistle_X8_isRoom rfl rfl rfl (by decide +kernel) ⟨Nat.le_of_ble_eq_true rfl, Nat.le_of_ble_eq_true rfl⟩) (hP.sub (ws' := []) [] rfl) hK (hE.kept hS.2.1) rfl hl.1 rfl (Nat.le_of_ble_eq_true rfl) dX8_whistle_6 ⟨Nat.le_of_ble_eq_true rfl, Nat.le_of_ble_eq_true rfl⟩ ?_
  refine b_if_eq (b := pWi (nI r) (nI 0) (nI 5)) (tgt := 19) hx hb dX8_whistle_9 (by decide) (fun c_1 => by exfalso; rw [pWi_n (by omega) (by omega) (by decide)] at c_1; cases c_1) (fun c_2 => ?_)
  refine lv_iload_n hx hb dX8_whistle_12 rfl (lv_at hl 2 rfl) ?_
  refine k_roS (As := [.int (nI mm)]) (rest := []) (wc := []) (d := 1) (v := bI (pWi (nI mm) (nI 0) (nI 19))) cx (c_X8_isMessage l G T A (nI mm) ) (va_cwS 1 hts gX8_whistle_X8_isMessage rfl rfl rfl (by decide +kernel) ⟨Nat.le_of_ble_eq_true rfl, Nat.le_of_ble_eq_true rfl⟩) (hP.sub (ws' := []) [] rfl) hK (hE.kept hS.2.1) rfl hl.1 rfl (Nat.le_of_ble_eq_true rfl) dX8_whistle_13 ⟨Nat.le_of_ble_eq_true rfl, Nat.le_of_ble_eq_true rfl⟩ ?_
  refine b_if_ne (b := pWi (nI mm) (nI 0) (nI 19)) (tgt := 25) hx hb dX8_whistle_16 (by decide) (fun c_3 => ?_) (fun c_4 => by exfalso; rw [pWi_n (by omega) (by omega) (by decide)] at c_4; cases c_4)
  refine lv_aload_n hx hb dX8_whistle_25 rfl (lv_at hl 0 rfl) ?_
  refine lv_iload_n hx hb dX8_whistle_26 rfl (lv_at hl 1 rfl) ?_
  refine lv_iload_n hx hb dX8_whistle_27 rfl (lv_at hl 2 rfl) ?_
  refine k_roV (As := [.int (nI r), .int (nI mm)]) (rest := []) (wc := oX8 T q (sc Z 0 (nI 0)) g) (d := 2) (v := mWy (sc Z 0 (nI 0)) r mm) cx (c_X8_whyNotWhistled l G T A q (sc Z 0 (nI 0)) g r mm (by omega) (by omega)) (cwV 2 hts gX8_whistle_X8_whyNotWhistled rfl rfl rfl (by decide +kernel) ⟨Nat.le_of_ble_eq_true rfl, Nat.le_of_ble_eq_true rfl⟩) hP hK (hE.kept hS.2.1) (va_recv hK hP (ci := 8) (q0 := 0) rfl rfl) rfl hl.1 rfl (Nat.le_of_ble_eq_true rfl) dX8_whistle_28 ⟨Nat.le_of_ble_eq_true rfl, Nat.le_of_ble_eq_true rfl⟩ ?_
  refine lv_if_eq (tgt := 40) hx hb dX8_whistle_31 (by decide) (fun c_5 => ?_) (fun c_6 => by exfalso; exact c_6 hno)
  refine lv_aload_n hx hb dX8_whistle_40 rfl (lv_at hl 0 rfl) ?_
  refine k_rvV (As := []) (rest := []) (wc := oX8 T q (sc Z 0 (nI 0)) g) (wr := []) (w1 := oX8 T q (sa (sc (sc Z 0 (nI 0)) 3 (nI (mSvN sv))) 3 (mSvF ((sc Z 0 (nI 0)) 3) ((sc Z 0 (nI 0)) 2) sv)) g) (d := 0) (mc := 0) (ms := 0) (isC := [0, 1, 2, 3, 4, 5, 6]) (isR := []) cx (c_X8_save l G T H.size q (sc Z 0 (nI 0)) g sv (by first | assumption | rfl | omega) (by omega)) (cwV 0 hts gX8_whistle_X8_save rfl rfl rfl (by decide +kernel) ⟨Nat.le_of_ble_eq_true rfl, Nat.le_of_ble_eq_true rfl⟩) ⟨hP, hD, hS, hA, hE, hK, rfl, rfl, rfl, rfl, by decide⟩ (va_recv hK hP (ci := 8) (q0 := 0) rfl rfl) rfl hl.1 rfl (Nat.le_of_ble_eq_true rfl) dX8_whistle_41 ⟨Nat.le_of_ble_eq_true rfl, Nat.le_of_ble_eq_true rfl⟩ (fun H locs hP hD hS hz => ?_)
  have hP : va_P G vwCl [(q 0, .inr (8, [.int (nI 0), .ref (q 2), .ref (q 3), .int (nI (mSvN sv)), .ref (q 5), .int (Z 0 5), .ref (q 7), .int (Z 0 7), .int (Z 0 8), .int (Z 0 9), .int (Z 0 10), .int (Z 0 11), .ref (q 13), .int (Z 0 13), .ref (q 15), .long g])), (q 2, .inl (T 0, 267, .inl (Z 2))), (q 3, .inl (T 0, 1602, .inl (mSvF ((Z 3)) ((Z 2)) sv))), (q 5, .inl (T 0, 267, .inl (Z 5))), (q 7, .inl (T 0, 60, .inl (Z 7))), (q 13, .inl (T 0, 8, .inl (Z 13))), (q 15, .inl (T 0, 3, .inl (Z 15)))] H := hP
  have hD : va_D A [(q 0, .inr (8, [.int (nI 0), .ref (q 2), .ref (q 3), .int (nI (mSvN sv)), .ref (q 5), .int (Z 0 5), .ref (q 7), .int (Z 0 7), .int (Z 0 8), .int (Z 0 9), .int (Z 0 10), .int (Z 0 11), .ref (q 13), .int (Z 0 13), .ref (q 15), .long g])), (q 2, .inl (T 0, 267, .inl (Z 2))), (q 3, .inl (T 0, 1602, .inl (mSvF ((Z 3)) ((Z 2)) sv))), (q 5, .inl (T 0, 267, .inl (Z 5))), (q 7, .inl (T 0, 60, .inl (Z 7))), (q 13, .inl (T 0, 8, .inl (Z 13))), (q 15, .inl (T 0, 3, .inl (Z 15)))] := hD
  refine lv_aload_n hx hb dX8_whistle_44 rfl (lv_at hl 0 rfl) ?_
  refine lv_iload_n hx hb dX8_whistle_45 rfl (lv_at hl 1 rfl) ?_
  refine lv_iload_n hx hb dX8_whistle_46 rfl (lv_at hl 2 rfl) ?_
  refine k_rwV (As := [.int (nI r), .int (nI mm)]) (rest := []) (wc := oX8 T q (sa (sc (sc Z 0 (nI 0)) 3 (nI (mSvN sv))) 3 (mSvF ((Z 3)) ((Z 2)) sv)) g) (wr := []) (w1 := oX8 T q (sa (sa (sc (sc Z 0 (nI 0)) 3 (nI (mSvN sv))) 3 (mSvF ((Z 3)) ((Z 2)) sv)) 2 (mWhF (sa (sc (sc Z 0 (nI 0)) 3 (nI (mSvN sv))) 3 (mSvF ((Z 3)) ((Z 2)) sv)) r mm)) g) (d := 5) (mc := 0) (ms := 0) (v := mOn (mKn (sa (sc (sc Z 0 (nI 0)) 3 (nI (mSvN sv))) 3 (mSvF ((Z 3)) ((Z 2)) sv)) r 6) 6) (isC := [0, 1, 2, 3, 4, 5, 6]) (isR := []) cx (c_X8_whistles l G T H.size q (sa (sc (sc Z 0 (nI 0)) 3 (nI (mSvN sv))) 3 (mSvF ((Z 3)) ((Z 2)) sv)) g r mm (by omega) (by omega)) (cwV 2 hts gX8_whistle_X8_whistles rfl rfl rfl (by decide +kernel) ⟨Nat.le_of_ble_eq_true rfl, Nat.le_of_ble_eq_true rfl⟩) ⟨hP, hD, hS, hA, hE, hK, rfl, rfl, rfl, rfl, by decide⟩ (va_recv hK hP (ci := 8) (q0 := 0) rfl rfl) rfl hl.1 rfl (Nat.le_of_ble_eq_true rfl) dX8_whistle_47 ⟨Nat.le_of_ble_eq_true rfl, Nat.le_of_ble_eq_true rfl⟩ (fun H locs hP hD hS hz => ?_)
  have hP : va_P G vwCl [(q 0, .inr (8, [.int (nI 0), .ref (q 2), .ref (q 3), .int (nI (mSvN sv)), .ref (q 5), .int (Z 0 5), .ref (q 7), .int (Z 0 7), .int (Z 0 8), .int (Z 0 9), .int (Z 0 10), .int (Z 0 11), .ref (q 13), .int (Z 0 13), .ref (q 15), .long g])), (q 2, .inl (T 0, 267, .inl (mWhF (sa (sc (sc Z 0 (nI 0)) 3 (nI (mSvN sv))) 3 (mSvF ((Z 3)) ((Z 2)) sv)) r mm))), (q 3, .inl (T 0, 1602, .inl (mSvF ((Z 3)) ((Z 2)) sv))), (q 5, .inl (T 0, 267, .inl (Z 5))), (q 7, .inl (T 0, 60, .inl (Z 7))), (q 13, .inl (T 0, 8, .inl (Z 13))), (q 15, .inl (T 0, 3, .inl (Z 15)))] H := hP
  have hD : va_D A [(q 0, .inr (8, [.int (nI 0), .ref (q 2), .ref (q 3), .int (nI (mSvN sv)), .ref (q 5), .int (Z 0 5), .ref (q 7), .int (Z 0 7), .int (Z 0 8), .int (Z 0 9), .int (Z 0 10), .int (Z 0 11), .ref (q 13), .int (Z 0 13), .ref (q 15), .long g])), (q 2, .inl (T 0, 267, .inl (mWhF (sa (sc (sc Z 0 (nI 0)) 3 (nI (mSvN sv))) 3 (mSvF ((Z 3)) ((Z 2)) sv)) r mm))), (q 3, .inl (T 0, 1602, .inl (mSvF ((Z 3)) ((Z 2)) sv))), (q 5, .inl (T 0, 267, .inl (Z 5))), (q 7, .inl (T 0, 60, .inl (Z 7))), (q 13, .inl (T 0, 8, .inl (Z 13))), (q 15, .inl (T 0, 3, .inl (Z 15)))] := hD
  subst hQ
  have e_7 : (mWhF (sa (sc (sc Z 0 (nI 0)) 3 (nI (mSvN sv))) 3 (mSvF ((Z 3)) ((Z 2)) sv)) r mm) = mWhF (svZ Z sv) r mm := rfl
  have e_8 : (mSvF ((Z 3)) ((Z 2)) sv) = mSvF (Z 3) (Z 2) sv := (by first | rfl | simp [bI, c_2, c_3, c_5])
  rw [e_7, e_8] at hP hD
  have hP9 : va_P G vwCl (oX8 T q (sa (sa (sc (sc Z 0 (nI 0)) 3 (nI (mSvN sv))) 2 (mWhF (svZ Z sv) r mm)) 3 (mSvF (Z 3) (Z 2) sv)) g) H := hP
  have hD9 : va_D A (oX8 T q (sa (sa (sc (sc Z 0 (nI 0)) 3 (nI (mSvN sv))) 2 (mWhF (svZ Z sv) r mm)) 3 (mSvF (Z 3) (Z 2) sv)) g) := hD
  exact e_rwi hx hb hr hlocks hS rfl hP9 hD9 dX8_whistle_50
set_option maxHeartbeats 4000000 in
set_option maxRecDepth 100000 in
theorem c_X8_firstError (l : Launch) (G : va_G) (T : Nat → ClassId) (sz : Nat) (q : Nat → Nat) (Z : Nat → Nat → Int32) (g : Int64) (L : Nat) (cd : Nat → Nat) (fs : FE) (hle : Z 0 7 = nI L) (hcd : ∀ i : Nat, i < L → Z 7 i = nI (cd i)) (hc127 : ∀ i : Nat, i < L → cd i < 127) (hL60 : L ≤ 60) (hfs : zFE Z 0 = fs) : RWi l yX8_firstError wsX8_firstError 5 0 0 G T sz (oX8 T q Z g) [.ref (q 0)] (if feV cd L (fe cd L fs L) = -1 then nI L else feV cd L (fe cd L fs L)) (oX8 T q (sa (sa (sc (sc (sc (sc (sc (sc Z 0 (nI 0)) 8 (nI (rpS9 cd L (fe cd L fs L)).1)) 9 (rpS9 cd L (fe cd L fs L)).2.1) 10 (rpS9 cd L (fe cd L fs L)).2.2.1) 11 (rpS9 cd L (fe cd L fs L)).2.2.2.1) 13 (rpS9 cd L (fe cd L fs L)).2.2.2.2.1) 13 (rpS9 cd L (fe cd L fs L)).2.2.2.2.2.1) 15 (rpS9 cd L (fe cd L fs L)).2.2.2.2.2.2) g) := by
  refine Met.ofW (cc := cX8_firstError) (maxL := 2) (ret := (some .int)) (by decide) rfl ?_
  intro p e s m args below meth c s₁ B hml hv
  obtain ⟨ha, hsz, hP, hK, hD0, hE0⟩ := hv
  have hx := B.exec
  have hb := B.bytes
  have hr := B.returns
  have hlocks := B.notSynchronized
  have hts := atoms_spec (ws := wsX8_firstError) B.pre
  have hown : s.vm.findClass RX8 = some m.cls := findClass_of_methodNamed B.named
  have cx : CallFix p m c cX8_firstError 2 s args wsX8_firstError RX8 := ⟨hx, hb, hml, hown, hts⟩
  subst hsz
  have hD := hD0.self (sz := s.heap.size)
  generalize hAe : va_A (oX8 T q Z g) s.heap.size = A at hD hE0 ⊢
  have hE : gE A s s.heap := hE0
  have hA : ∀ q : Nat, s.heap.size ≤ q → A q := fun q h => by rw [← hAe]; exact Or.inr h
  have hS : va_S A s.heap s.heap [] := va_S.rf
  refine w_entry ha (Nat.le_of_ble_eq_true rfl) (fun ls hl => ?_)
  refine w_q (fun Q0 hQ => ?_)
  have lk28 := hts (.fieldLink RX8 28 "WhistleTunesModel" "thrown" "I") (by decide +kernel)
  have hinX8 : ∀ w ∈ wsX80, w ∈ wsX8_firstError := by decide +kernel
  have lk53 := hts (.fieldLink RX8 53 "WhistleTunesModel" "length" "I") (by decide +kernel)
  have hl : lv_has ls 2 [(0, .ref (q 0))] := hl
  have hP : va_P G vwCl [(q 0, .inr (8, [.int (Z 0 0), .ref (q 2), .ref (q 3), .int (Z 0 3), .ref (q 5), .int (Z 0 5), .ref (q 7), .int (Z 0 7), .int (Z 0 8), .int (Z 0 9), .int (Z 0 10), .int (Z 0 11), .ref (q 13), .int (Z 0 13), .ref (q 15), .long g])), (q 2, .inl (T 0, 267, .inl (Z 2))), (q 3, .inl (T 0, 1602, .inl (Z 3))), (q 5, .inl (T 0, 267, .inl (Z 5))), (q 7, .inl (T 0, 60, .inl (Z 7))), (q 13, .inl (T 0, 8, .inl (Z 13))), (q 15, .inl (T 0, 3, .inl (Z 15)))] s.heap := hP
  have hD : va_D A [(q 0, .inr (8, [.int (Z 0 0), .ref (q 2), .ref (q 3), .int (Z 0 3), .ref (q 5), .int (Z 0 5), .ref (q 7), .int (Z 0 7), .int (Z 0 8), .int (Z 0 9), .int (Z 0 10), .int (Z 0 11), .ref (q 13), .int (Z 0 13), .ref (q 15), .long g])), (q 2, .inl (T 0, 267, .inl (Z 2))), (q 3, .inl (T 0, 1602, .inl (Z 3))), (q 5, .inl (T 0, 267, .inl (Z 5))), (q 7, .inl (T 0, 60, .inl (Z 7))), (q 13, .inl (T 0, 8, .inl (Z 13))), (q 15, .inl (T 0, 3, .inl (Z 15)))] := hD
  skip
  refine w_h (fun H locs hHe hLe => ?_)
  have hP : va_P G vwCl [(q 0, .inr (8, [.int (Z 0 0), .ref (q 2), .ref (q 3), .int (Z 0 3), .ref (q 5), .int (Z 0 5), .ref (q 7), .int (Z 0 7), .int (Z 0 8), .int (Z 0 9), .int (Z 0 10), .int (Z 0 11), .ref (q 13), .int (Z 0 13), .ref (q 15), .long g])), (q 2, .inl (T 0, 267, .inl (Z 2))), (q 3, .inl (T 0, 1602, .inl (Z 3))), (q 5, .inl (T 0, 267, .inl (Z 5))), (q 7, .inl (T 0, 60, .inl (Z 7))), (q 13, .inl (T 0, 8, .inl (Z 13))), (q 15, .inl (T 0, 3, .inl (Z 15)))] H := by rw [hHe]; exact hP
  have hS : va_S A s.heap H locs := by rw [hHe, hLe]; exact hS
  refine lv_aload_n hx hb dX8_firstError_0 rfl (lv_at hl 0 rfl) ?_
  refine n_iconst hx hb 0 dX8_firstError_1 (by decide) ?_
  refine va_put (D := G) (ci := 8) (v := .int (nI 0)) (ty := .int) (C := RX8) (T := TX8) (N := 16) hx hb hts hinX8 tyX8 tyX8_ok nmX8 hown hK hP hD hS 0 rfl rfl 0 (by decide) lk28 (fun _ h9 => h9) rfl (by decide +kernel) rfl rfl (Nat.le_of_ble_eq_true rfl) dX8_firstError_2 (fun H locs hP hD hS => ?_)
  have hP : va_P G vwCl [(q 0, .inr (8, [.int (nI 0), .ref (q 2), .ref (q 3), .int (Z 0 3), .ref (q 5), .int (Z 0 5), .ref (q 7), .int (Z 0 7), .int (Z 0 8), .int (Z 0 9), .int (Z 0 10), .int (Z 0 11), .ref (q 13), .int (Z 0 13), .ref (q 15), .long g])), (q 2, .inl (T 0, 267, .inl (Z 2))), (q 3, .inl (T 0, 1602, .inl (Z 3))), (q 5, .inl (T 0, 267, .inl (Z 5))), (q 7, .inl (T 0, 60, .inl (Z 7))), (q 13, .inl (T 0, 8, .inl (Z 13))), (q 15, .inl (T 0, 3, .inl (Z 15)))] H := hP
  have hD : va_D A [(q 0, .inr (8, [.int (nI 0), .ref (q 2), .ref (q 3), .int (Z 0 3), .ref (q 5), .int (Z 0 5), .ref (q 7), .int (Z 0 7), .int (Z 0 8), .int (Z 0 9), .int (Z 0 10), .int (Z 0 11), .ref (q 13), .int (Z 0 13), .ref (q 15), .long g])), (q 2, .inl (T 0, 267, .inl (Z 2))), (q 3, .inl (T 0, 1602, .inl (Z 3))), (q 5, .inl (T 0, 267, .inl (Z 5))), (q 7, .inl (T 0, 60, .inl (Z 7))), (q 13, .inl (T 0, 8, .inl (Z 13))), (q 15, .inl (T 0, 3, .inl (Z 15)))] := hD
  refine lv_aload_n hx hb dX8_firstError_5 rfl (lv_at hl 0 rfl) ?_
  refine k_rwV (As := []) (rest := []) (wc := oX8 T q (sc Z 0 (nI 0)) g) (wr := []) (w1 := oX8 T q (sa (sa (sc (sc (sc (sc (sc (sc Z 0 (nI 0)) 8 (nI (rpS9 cd L (fe cd L fs L)).1)) 9 (rpS9 cd L (fe cd L fs L)).2.1) 10 (rpS9 cd L (fe cd L fs L)).2.2.1) 11 (rpS9 cd L (fe cd L fs L)).2.2.2.1) 13 (rpS9 cd L (fe cd L fs L)).2.2.2.2.1) 13 (rpS9 cd L (fe cd L fs L)).2.2.2.2.2.1) 15 (rpS9 cd L (fe cd L fs L)).2.2.2.2.2.2) g) (d := 4) (mc := 0) (ms := 0) (v := feV cd L (fe cd L fs L)) (isC := [0, 1, 2, 3, 4, 5, 6]) (isR := []) cx (c_X8_findError l G T H.size q (sc Z 0 (nI 0)) g L cd fs (by first | assumption | rfl | omega) (by first | assumption | rfl | omega) (by omega) (by omega) hfs) (cwV 0 hts gX8_firstError_X8_findError rfl rfl rfl (by decide +kernel) ⟨Nat.le_of_ble_eq_true rfl, Nat.le_of_ble_eq_true rfl⟩) ⟨hP, hD, hS, hA, hE, hK, rfl, rfl, rfl, rfl, by decide⟩ (va_recv hK hP (ci := 8) (q0 := 0) rfl rfl) rfl hl.1 rfl (Nat.le_of_ble_eq_true rfl) dX8_firstError_6 ⟨Nat.le_of_ble_eq_true rfl, Nat.le_of_ble_eq_true rfl⟩ (fun H locs hP hD hS hz => ?_)
  have hP : va_P G vwCl [(q 0, .inr (8, [.int (nI 0), .ref (q 2), .ref (q 3), .int (Z 0 3), .ref (q 5), .int (Z 0 5), .ref (q 7), .int (Z 0 7), .int (nI (rpS9 cd L (fe cd L fs L)).1), .int ((rpS9 cd L (fe cd L fs L)).2.1), .int ((rpS9 cd L (fe cd L fs L)).2.2.1), .int ((rpS9 cd L (fe cd L fs L)).2.2.2.1), .ref (q 13), .int ((rpS9 cd L (fe cd L fs L)).2.2.2.2.1), .ref (q 15), .long g])), (q 2, .inl (T 0, 267, .inl (Z 2))), (q 3, .inl (T 0, 1602, .inl (Z 3))), (q 5, .inl (T 0, 267, .inl (Z 5))), (q 7, .inl (T 0, 60, .inl (Z 7))), (q 13, .inl (T 0, 8, .inl (rpS9 cd L (fe cd L fs L)).2.2.2.2.2.1)), (q 15, .inl (T 0, 3, .inl (rpS9 cd L (fe cd L fs L)).2.2.2.2.2.2))] H := hP
  have hD : va_D A [(q 0, .inr (8, [.int (nI 0), .ref (q 2), .ref (q 3), .int (Z 0 3), .ref (q 5), .int (Z 0 5), .ref (q 7), .int (Z 0 7), .int (nI (rpS9 cd L (fe cd L fs L)).1), .int ((rpS9 cd L (fe cd L fs L)).2.1), .int ((rpS9 cd L (fe cd L fs L)).2.2.1), .int ((rpS9 cd L (fe cd L fs L)).2.2.2.1), .ref (q 13), .int ((rpS9 cd L (fe cd L fs L)).2.2.2.2.1), .ref (q 15), .long g])), (q 2, .inl (T 0, 267, .inl (Z 2))), (q 3, .inl (T 0, 1602, .inl (Z 3))), (q 5, .inl (T 0, 267, .inl (Z 5))), (q 7, .inl (T 0, 60, .inl (Z 7))), (q 13, .inl (T 0, 8, .inl (rpS9 cd L (fe cd L fs L)).2.2.2.2.2.1)), (q 15, .inl (T 0, 3, .inl (rpS9 cd L (fe cd L fs L)).2.2.2.2.2.2))] := hD
  refine lv_istore_n (lv' := [(1, .int (feV cd L (fe cd L fs L))), (0, .ref (q 0))]) hx hb dX8_firstError_9 rfl hl (by decide) rfl (fun ls hl => ?_)
  refine lv_iload_n hx hb dX8_firstError_10 rfl (lv_at hl 0 rfl) ?_
  refine lv_iconst (v := -1) hx hb dX8_firstError_11 (by decide) ?_
  have J_1 : ∀ y9 : Int32, y9 = (if feV cd L (fe cd L fs L) = -1 then nI L else feV cd L (fe cd L fs L)) → W p l e (headSpec wsX8_firstError (rmD 5 0 0)).room s m args below meth c H locs 0 0 Q0 (F0 m 23 ls (.int y9 :: [])) := by
    intro y9 hy9
    subst hy9
    subst hQ
    have hP9 : va_P G vwCl (oX8 T q (sa (sa (sc (sc (sc (sc (sc (sc Z 0 (nI 0)) 8 (nI (rpS9 cd L (fe cd L fs L)).1)) 9 (rpS9 cd L (fe cd L fs L)).2.1) 10 (rpS9 cd L (fe cd L fs L)).2.2.1) 11 (rpS9 cd L (fe cd L fs L)).2.2.2.1) 13 (rpS9 cd L (fe cd L fs L)).2.2.2.2.1) 13 (rpS9 cd L (fe cd L fs L)).2.2.2.2.2.1) 15 (rpS9 cd L (fe cd L fs L)).2.2.2.2.2.2) g) H := hP
    have hD9 : va_D A (oX8 T q (sa (sa (sc (sc (sc (sc (sc (sc Z 0 (nI 0)) 8 (nI (rpS9 cd L (fe cd L fs L)).1)) 9 (rpS9 cd L (fe cd L fs L)).2.1) 10 (rpS9 cd L (fe cd L fs L)).2.2.1) 11 (rpS9 cd L (fe cd L fs L)).2.2.2.1) 13 (rpS9 cd L (fe cd L fs L)).2.2.2.2.1) 13 (rpS9 cd L (fe cd L fs L)).2.2.2.2.2.1) 15 (rpS9 cd L (fe cd L fs L)).2.2.2.2.2.2) g) := hD
    exact e_rwi hx hb hr hlocks hS (by first | rfl | simp [bI]) hP9 hD9 dX8_firstError_23
  refine lv_icmp_ne (tgt := 22) hx hb dX8_firstError_12 (by decide) (fun c_2 => ?_) (fun c_3 => ?_)
  · skip
    refine lv_iload_n hx hb dX8_firstError_22 rfl (lv_at hl 0 rfl) ?_
    exact J_1 _ (by first | rw [if_pos c_2] | rw [if_neg c_2])
  · skip
    refine lv_aload_n hx hb dX8_firstError_15 rfl (lv_at hl 1 rfl) ?_
    refine va_get (D := G) (ci := 8) (v := .int (Z 0 7)) (C := RX8) (T := TX8) (N := 16) hx hb hts hinX8 hown hK hP 0 rfl rfl 7 (by decide) lk53 (fun _ h9 => h9) rfl dX8_firstError_16 ?_
    refine n_top (y := nI L) hle ?_
    refine lv_goto (tgt := 23) hx hb dX8_firstError_19 (by decide) ?_
    exact J_1 _ (by first | rw [if_pos c_3] | rw [if_neg c_3])
set_option maxHeartbeats 4000000 in
set_option maxRecDepth 100000 in
theorem c_X8_tuneError (l : Launch) (G : va_G) (T : Nat → ClassId) (sz : Nat) (q : Nat → Nat) (Z : Nat → Nat → Int32) (g : Int64) (L : Nat) (cd : Nat → Nat) (hle : Z 0 7 = nI L) (hcd : ∀ i : Nat, i < L → Z 7 i = nI (cd i)) (hc127 : ∀ i : Nat, i < L → cd i < 127) (hL60 : L ≤ 60) : RWi l yX8_tuneError wsX8_tuneError 4 0 0 G T sz (oX8 T q Z g) [.ref (q 0)] (if tuB cd L Z = true then nI L else nI (rtE cd L 0 (Z 13) (Z 15)).1.1) (oX8 T q (sa (sa (sc (sc (sc Z 0 (nI 0)) 8 (nI (rtE cd L 0 (Z 13) (Z 15)).1.1)) 13 (nI (rtE cd L 0 (Z 13) (Z 15)).1.2.1)) 13 (rtE cd L 0 (Z 13) (Z 15)).1.2.2) 15 (rtE cd L 0 (Z 13) (Z 15)).2.1.2) g) := by
  refine Met.ofW (cc := cX8_tuneError) (maxL := 1) (ret := (some .int)) (by decide) rfl ?_
  intro p e s m args below meth c s₁ B hml hv
  obtain ⟨ha, hsz, hP, hK, hD0, hE0⟩ := hv
  have hx := B.exec
  have hb := B.bytes
  have hr := B.returns
  have hlocks := B.notSynchronized
  have hts := atoms_spec (ws := wsX8_tuneError) B.pre
  have hown : s.vm.findClass RX8 = some m.cls := findClass_of_methodNamed B.named
  have cx : CallFix p m c cX8_tuneError 1 s args wsX8_tuneError RX8 := ⟨hx, hb, hml, hown, hts⟩
  subst hsz
  have hD := hD0.self (sz := s.heap.size)
  generalize hAe : va_A (oX8 T q Z g) s.heap.size = A at hD hE0 ⊢
  have hE : gE A s s.heap := hE0
  have hA : ∀ q : Nat, s.heap.size ≤ q → A q := fun q h => by rw [← hAe]; exact Or.inr h
  have hS : va_S A s.heap s.heap [] := va_S.rf
  refine w_entry ha (Nat.le_of_ble_eq_true rfl) (fun ls hl => ?_)
  refine w_q (fun Q0 hQ => ?_)
  have lk28 := hts (.fieldLink RX8 28 "WhistleTunesModel" "thrown" "I") (by decide +kernel)
  have hinX8 : ∀ w ∈ wsX80, w ∈ wsX8_tuneError := by decide +kernel
  have lk50 := hts (.fieldLink RX8 50 "WhistleTunesModel" "at" "I") (by decide +kernel)
  have lk53 := hts (.fieldLink RX8 53 "WhistleTunesModel" "length" "I") (by decide +kernel)
  have hl : lv_has ls 1 [(0, .ref (q 0))] := hl
  have hP : va_P G vwCl [(q 0, .inr (8, [.int (Z 0 0), .ref (q 2), .ref (q 3), .int (Z 0 3), .ref (q 5), .int (Z 0 5), .ref (q 7), .int (Z 0 7), .int (Z 0 8), .int (Z 0 9), .int (Z 0 10), .int (Z 0 11), .ref (q 13), .int (Z 0 13), .ref (q 15), .long g])), (q 2, .inl (T 0, 267, .inl (Z 2))), (q 3, .inl (T 0, 1602, .inl (Z 3))), (q 5, .inl (T 0, 267, .inl (Z 5))), (q 7, .inl (T 0, 60, .inl (Z 7))), (q 13, .inl (T 0, 8, .inl (Z 13))), (q 15, .inl (T 0, 3, .inl (Z 15)))] s.heap := hP
  have hD : va_D A [(q 0, .inr (8, [.int (Z 0 0), .ref (q 2), .ref (q 3), .int (Z 0 3), .ref (q 5), .int (Z 0 5), .ref (q 7), .int (Z 0 7), .int (Z 0 8), .int (Z 0 9), .int (Z 0 10), .int (Z 0 11), .ref (q 13), .int (Z 0 13), .ref (q 15), .long g])), (q 2, .inl (T 0, 267, .inl (Z 2))), (q 3, .inl (T 0, 1602, .inl (Z 3))), (q 5, .inl (T 0, 267, .inl (Z 5))), (q 7, .inl (T 0, 60, .inl (Z 7))), (q 13, .inl (T 0, 8, .inl (Z 13))), (q 15, .inl (T 0, 3, .inl (Z 15)))] := hD
  skip
  have htn := tuN_le cd L Z
  have hta := tuA_le cd L Z
  unfold tuN at htn
  refine w_h (fun H locs hHe hLe => ?_)
  have hP : va_P G vwCl [(q 0, .inr (8, [.int (Z 0 0), .ref (q 2), .ref (q 3), .int (Z 0 3), .ref (q 5), .int (Z 0 5), .ref (q 7), .int (Z 0 7), .int (Z 0 8), .int (Z 0 9), .int (Z 0 10), .int (Z 0 11), .ref (q 13), .int (Z 0 13), .ref (q 15), .long g])), (q 2, .inl (T 0, 267, .inl (Z 2))), (q 3, .inl (T 0, 1602, .inl (Z 3))), (q 5, .inl (T 0, 267, .inl (Z 5))), (q 7, .inl (T 0, 60, .inl (Z 7))), (q 13, .inl (T 0, 8, .inl (Z 13))), (q 15, .inl (T 0, 3, .inl (Z 15)))] H := by rw [hHe]; exact hP
  have hS : va_S A s.heap H locs := by rw [hHe, hLe]; exact hS
  refine lv_aload_n hx hb dX8_tuneError_0 rfl (lv_at hl 0 rfl) ?_
  refine n_iconst hx hb 0 dX8_tuneError_1 (by decide) ?_
  refine va_put (D := G) (ci := 8) (v := .int (nI 0)) (ty := .int) (C := RX8) (T := TX8) (N := 16) hx hb hts hinX8 tyX8 tyX8_ok nmX8 hown hK hP hD hS 0 rfl rfl 0 (by decide) lk28 (fun _ h9 => h9) rfl (by decide +kernel) rfl rfl (Nat.le_of_ble_eq_true rfl) dX8_tuneError_2 (fun H locs hP hD hS => ?_)
  have hP : va_P G vwCl [(q 0, .inr (8, [.int (nI 0), .ref (q 2), .ref (q 3), .int (Z 0 3), .ref (q 5), .int (Z 0 5), .ref (q 7), .int (Z 0 7), .int (Z 0 8), .int (Z 0 9), .int (Z 0 10), .int (Z 0 11), .ref (q 13), .int (Z 0 13), .ref (q 15), .long g])), (q 2, .inl (T 0, 267, .inl (Z 2))), (q 3, .inl (T 0, 1602, .inl (Z 3))), (q 5, .inl (T 0, 267, .inl (Z 5))), (q 7, .inl (T 0, 60, .inl (Z 7))), (q 13, .inl (T 0, 8, .inl (Z 13))), (q 15, .inl (T 0, 3, .inl (Z 15)))] H := hP
  have hD : va_D A [(q 0, .inr (8, [.int (nI 0), .ref (q 2), .ref (q 3), .int (Z 0 3), .ref (q 5), .int (Z 0 5), .ref (q 7), .int (Z 0 7), .int (Z 0 8), .int (Z 0 9), .int (Z 0 10), .int (Z 0 11), .ref (q 13), .int (Z 0 13), .ref (q 15), .long g])), (q 2, .inl (T 0, 267, .inl (Z 2))), (q 3, .inl (T 0, 1602, .inl (Z 3))), (q 5, .inl (T 0, 267, .inl (Z 5))), (q 7, .inl (T 0, 60, .inl (Z 7))), (q 13, .inl (T 0, 8, .inl (Z 13))), (q 15, .inl (T 0, 3, .inl (Z 15)))] := hD
  refine lv_aload_n hx hb dX8_tuneError_5 rfl (lv_at hl 0 rfl) ?_
  refine k_rwV (As := []) (rest := []) (wc := oX8 T q (sc Z 0 (nI 0)) g) (wr := []) (w1 := oX8 T q (sa (sa (sc (sc (sc Z 0 (nI 0)) 8 (nI (rtE cd L 0 ((sc Z 0 (nI 0)) 13) ((sc Z 0 (nI 0)) 15)).1.1)) 13 (nI (rtE cd L 0 ((sc Z 0 (nI 0)) 13) ((sc Z 0 (nI 0)) 15)).1.2.1)) 13 (rtE cd L 0 ((sc Z 0 (nI 0)) 13) ((sc Z 0 (nI 0)) 15)).1.2.2) 15 (rtE cd L 0 ((sc Z 0 (nI 0)) 13) ((sc Z 0 (nI 0)) 15)).2.1.2) g) (d := 3) (mc := 0) (ms := 0) (v := bI (rtB (rtE cd L 0 ((Z 13)) ((Z 15))) && decide ((rtE cd L 0 ((Z 13)) ((Z 15))).1.1 = L))) (isC := [0, 1, 2, 3, 4, 5, 6]) (isR := []) cx (c_X8_isTuneText l G T H.size q (sc Z 0 (nI 0)) g L cd (by first | assumption | rfl | omega) (by first | assumption | rfl | omega) (by omega) (by omega)) (cwV 0 hts gX8_tuneError_X8_isTuneText rfl rfl rfl (by decide +kernel) ⟨Nat.le_of_ble_eq_true rfl, Nat.le_of_ble_eq_true rfl⟩) ⟨hP, hD, hS, hA, hE, hK, rfl, rfl, rfl, rfl, by decide⟩ (va_recv hK hP (ci := 8) (q0 := 0) rfl rfl) rfl hl.1 rfl (Nat.le_of_ble_eq_true rfl) dX8_tuneError_6 ⟨Nat.le_of_ble_eq_true rfl, Nat.le_of_ble_eq_true rfl⟩ (fun H locs hP hD hS hz => ?_)
  have hP : va_P G vwCl [(q 0, .inr (8, [.int (nI 0), .ref (q 2), .ref (q 3), .int (Z 0 3), .ref (q 5), .int (Z 0 5), .ref (q 7), .int (Z 0 7), .int (nI (rtE cd L 0 ((Z 13)) ((Z 15))).1.1), .int (Z 0 9), .int (Z 0 10), .int (Z 0 11), .ref (q 13), .int (nI (rtE cd L 0 ((Z 13)) ((Z 15))).1.2.1), .ref (q 15), .long g])), (q 2, .inl (T 0, 267, .inl (Z 2))), (q 3, .inl (T 0, 1602, .inl (Z 3))), (q 5, .inl (T 0, 267, .inl (Z 5))), (q 7, .inl (T 0, 60, .inl (Z 7))), (q 13, .inl (T 0, 8, .inl (rtE cd L 0 ((Z 13)) ((Z 15))).1.2.2)), (q 15, .inl (T 0, 3, .inl (rtE cd L 0 ((Z 13)) ((Z 15))).2.1.2))] H := hP
  have hD : va_D A [(q 0, .inr (8, [.int (nI 0), .ref (q 2), .ref (q 3), .int (Z 0 3), .ref (q 5), .int (Z 0 5), .ref (q 7), .int (Z 0 7), .int (nI (rtE cd L 0 ((Z 13)) ((Z 15))).1.1), .int (Z 0 9), .int (Z 0 10), .int (Z 0 11), .ref (q 13), .int (nI (rtE cd L 0 ((Z 13)) ((Z 15))).1.2.1), .ref (q 15), .long g])), (q 2, .inl (T 0, 267, .inl (Z 2))), (q 3, .inl (T 0, 1602, .inl (Z 3))), (q 5, .inl (T 0, 267, .inl (Z 5))), (q 7, .inl (T 0, 60, .inl (Z 7))), (q 13, .inl (T 0, 8, .inl (rtE cd L 0 ((Z 13)) ((Z 15))).1.2.2)), (q 15, .inl (T 0, 3, .inl (rtE cd L 0 ((Z 13)) ((Z 15))).2.1.2))] := hD
  refine b_if_eq (b := rtB (rtE cd L 0 ((Z 13)) ((Z 15))) && decide ((rtE cd L 0 ((Z 13)) ((Z 15))).1.1 = L)) (tgt := 19) hx hb dX8_tuneError_9 (by decide) (fun c_1 => ?_) (fun c_2 => ?_)
  · skip
    refine lv_aload_n hx hb dX8_tuneError_19 rfl (lv_at hl 0 rfl) ?_
    refine va_get (D := G) (ci := 8) (v := .int (nI (rtE cd L 0 ((Z 13)) ((Z 15))).1.1)) (C := RX8) (T := TX8) (N := 16) hx hb hts hinX8 hown hK hP 0 rfl rfl 8 (by decide) lk50 (fun _ h9 => h9) rfl dX8_tuneError_20 ?_
    subst hQ
    have e_3 : nI (rtE cd L 0 ((Z 13)) ((Z 15))).1.1 = nI (rtE cd L 0 (Z 13) (Z 15)).1.1 := (by first | rfl | simp [bI, c_1])
    have e_4 : (rtE cd L 0 ((Z 13)) ((Z 15))).1.2.2 = (rtE cd L 0 (Z 13) (Z 15)).1.2.2 := (by first | rfl | simp [bI, c_1])
    have e_5 : nI (rtE cd L 0 ((Z 13)) ((Z 15))).1.2.1 = nI (rtE cd L 0 (Z 13) (Z 15)).1.2.1 := (by first | rfl | simp [bI, c_1])
    have e_6 : (rtE cd L 0 ((Z 13)) ((Z 15))).2.1.2 = (rtE cd L 0 (Z 13) (Z 15)).2.1.2 := (by first | rfl | simp [bI, c_1])
    rw [e_5, e_3, e_4, e_6] at hP hD
    have hP9 : va_P G vwCl (oX8 T q (sa (sa (sc (sc (sc Z 0 (nI 0)) 8 (nI (rtE cd L 0 (Z 13) (Z 15)).1.1)) 13 (nI (rtE cd L 0 (Z 13) (Z 15)).1.2.1)) 13 (rtE cd L 0 (Z 13) (Z 15)).1.2.2) 15 (rtE cd L 0 (Z 13) (Z 15)).2.1.2) g) H := hP
    have hD9 : va_D A (oX8 T q (sa (sa (sc (sc (sc Z 0 (nI 0)) 8 (nI (rtE cd L 0 (Z 13) (Z 15)).1.1)) 13 (nI (rtE cd L 0 (Z 13) (Z 15)).1.2.1)) 13 (rtE cd L 0 (Z 13) (Z 15)).1.2.2) 15 (rtE cd L 0 (Z 13) (Z 15)).2.1.2) g) := hD
    exact e_rwi hx hb hr hlocks hS (by first | exact (if_pos c_1).symm | exact (if_neg (by unfold tuB; rw [c_1]; decide)).symm) hP9 hD9 dX8_tuneError_23
  · skip
    refine lv_aload_n hx hb dX8_tuneError_12 rfl (lv_at hl 0 rfl) ?_
    refine va_get (D := G) (ci := 8) (v := .int (Z 0 7)) (C := RX8) (T := TX8) (N := 16) hx hb hts hinX8 hown hK hP 0 rfl rfl 7 (by decide) lk53 (fun _ h9 => h9) rfl dX8_tuneError_13 ?_
    refine n_top (y := nI L) hle ?_
    refine lv_goto (tgt := 23) hx hb dX8_tuneError_16 (by decide) ?_
    subst hQ
    have e_7 : nI (rtE cd L 0 ((Z 13)) ((Z 15))).1.1 = nI (rtE cd L 0 (Z 13) (Z 15)).1.1 := (by first | rfl | simp [bI, c_2])
    have e_8 : (rtE cd L 0 ((Z 13)) ((Z 15))).1.2.2 = (rtE cd L 0 (Z 13) (Z 15)).1.2.2 := (by first | rfl | simp [bI, c_2])
    have e_9 : nI (rtE cd L 0 ((Z 13)) ((Z 15))).1.2.1 = nI (rtE cd L 0 (Z 13) (Z 15)).1.2.1 := (by first | rfl | simp [bI, c_2])
    have e_10 : (rtE cd L 0 ((Z 13)) ((Z 15))).2.1.2 = (rtE cd L 0 (Z 13) (Z 15)).2.1.2 := (by first | rfl | simp [bI, c_2])
    rw [e_9, e_7, e_8, e_10] at hP hD
    have hP9 : va_P G vwCl (oX8 T q (sa (sa (sc (sc (sc Z 0 (nI 0)) 8 (nI (rtE cd L 0 (Z 13) (Z 15)).1.1)) 13 (nI (rtE cd L 0 (Z 13) (Z 15)).1.2.1)) 13 (rtE cd L 0 (Z 13) (Z 15)).1.2.2) 15 (rtE cd L 0 (Z 13) (Z 15)).2.1.2) g) H := hP
    have hD9 : va_D A (oX8 T q (sa (sa (sc (sc (sc Z 0 (nI 0)) 8 (nI (rtE cd L 0 (Z 13) (Z 15)).1.1)) 13 (nI (rtE cd L 0 (Z 13) (Z 15)).1.2.1)) 13 (rtE cd L 0 (Z 13) (Z 15)).1.2.2) 15 (rtE cd L 0 (Z 13) (Z 15)).2.1.2) g) := hD
    exact e_rwi hx hb hr hlocks hS (by first | exact (if_pos c_2).symm | exact (if_neg (by unfold tuB; rw [c_2]; decide)).symm) hP9 hD9 dX8_tuneError_23
set_option maxHeartbeats 4000000 in
set_option maxRecDepth 100000 in
theorem c_X8_stopped (l : Launch) (G : va_G) (T : Nat → ClassId) (sz : Nat) (q : Nat → Nat) (Z : Nat → Nat → Int32) (g : Int64) (w : Nat) (hw : w < 2) : RWi l yX8_stopped wsX8_stopped 6 0 0 G T sz (oX8 T q Z g) [.ref (q 0), .int (nI w)] (Z 2 (12 + w)) (oX8 T q (sc Z 0 (nI 0)) g) := by
  refine Met.ofW (cc := cX8_stopped) (maxL := 2) (ret := (some .int)) (by decide) rfl ?_
  intro p e s m args below meth c s₁ B hml hv
  obtain ⟨ha, hsz, hP, hK, hD0, hE0⟩ := hv
  have hx := B.exec
  have hb := B.bytes
  have hr := B.returns
  have hlocks := B.notSynchronized
  have hts := atoms_spec (ws := wsX8_stopped) B.pre
  have hown : s.vm.findClass RX8 = some m.cls := findClass_of_methodNamed B.named
  have cx : CallFix p m c cX8_stopped 2 s args wsX8_stopped RX8 := ⟨hx, hb, hml, hown, hts⟩
  subst hsz
  have hD := hD0.self (sz := s.heap.size)
  generalize hAe : va_A (oX8 T q Z g) s.heap.size = A at hD hE0 ⊢
  have hE : gE A s s.heap := hE0
  have hA : ∀ q : Nat, s.heap.size ≤ q → A q := fun q h => by rw [← hAe]; exact Or.inr h
  have hS : va_S A s.heap s.heap [] := va_S.rf
  refine w_entry ha (Nat.le_of_ble_eq_true rfl) (fun ls hl => ?_)
  refine w_q (fun Q0 hQ => ?_)
  have lk28 := hts (.fieldLink RX8 28 "WhistleTunesModel" "thrown" "I") (by decide +kernel)
  have hinX8 : ∀ w ∈ wsX80, w ∈ wsX8_stopped := by decide +kernel
  have lk7 := hts (.fieldLink RX8 7 "WhistleTunesModel" "state" "[I") (by decide +kernel)
  have hl : lv_has ls 2 [(0, .ref (q 0)), (1, .int (nI w))] := hl
  have hP : va_P G vwCl [(q 0, .inr (8, [.int (Z 0 0), .ref (q 2), .ref (q 3), .int (Z 0 3), .ref (q 5), .int (Z 0 5), .ref (q 7), .int (Z 0 7), .int (Z 0 8), .int (Z 0 9), .int (Z 0 10), .int (Z 0 11), .ref (q 13), .int (Z 0 13), .ref (q 15), .long g])), (q 2, .inl (T 0, 267, .inl (Z 2))), (q 3, .inl (T 0, 1602, .inl (Z 3))), (q 5, .inl (T 0, 267, .inl (Z 5))), (q 7, .inl (T 0, 60, .inl (Z 7))), (q 13, .inl (T 0, 8, .inl (Z 13))), (q 15, .inl (T 0, 3, .inl (Z 15)))] s.heap := hP
  have hD : va_D A [(q 0, .inr (8, [.int (Z 0 0), .ref (q 2), .ref (q 3), .int (Z 0 3), .ref (q 5), .int (Z 0 5), .ref (q 7), .int (Z 0 7), .int (Z 0 8), .int (Z 0 9), .int (Z 0 10), .int (Z 0 11), .ref (q 13), .int (Z 0 13), .ref (q 15), .long g])), (q 2, .inl (T 0, 267, .inl (Z 2))), (q 3, .inl (T 0, 1602, .inl (Z 3))), (q 5, .inl (T 0, 267, .inl (Z 5))), (q 7, .inl (T 0, 60, .inl (Z 7))), (q 13, .inl (T 0, 8, .inl (Z 13))), (q 15, .inl (T 0, 3, .inl (Z 15)))] := hD
  skip
  refine w_h (fun H locs hHe hLe => ?_)
  have hP : va_P G vwCl [(q 0, .inr (8, [.int (Z 0 0), .ref (q 2), .ref (q 3), .int (Z 0 3), .ref (q 5), .int (Z 0 5), .ref (q 7), .int (Z 0 7), .int (Z 0 8), .int (Z 0 9), .int (Z 0 10), .int (Z 0 11), .ref (q 13), .int (Z 0 13), .ref (q 15), .long g])), (q 2, .inl (T 0, 267, .inl (Z 2))), (q 3, .inl (T 0, 1602, .inl (Z 3))), (q 5, .inl (T 0, 267, .inl (Z 5))), (q 7, .inl (T 0, 60, .inl (Z 7))), (q 13, .inl (T 0, 8, .inl (Z 13))), (q 15, .inl (T 0, 3, .inl (Z 15)))] H := by rw [hHe]; exact hP
  have hS : va_S A s.heap H locs := by rw [hHe, hLe]; exact hS
  refine lv_aload_n hx hb dX8_stopped_0 rfl (lv_at hl 0 rfl) ?_
  refine n_iconst hx hb 0 dX8_stopped_1 (by decide) ?_
  refine va_put (D := G) (ci := 8) (v := .int (nI 0)) (ty := .int) (C := RX8) (T := TX8) (N := 16) hx hb hts hinX8 tyX8 tyX8_ok nmX8 hown hK hP hD hS 0 rfl rfl 0 (by decide) lk28 (fun _ h9 => h9) rfl (by decide +kernel) rfl rfl (Nat.le_of_ble_eq_true rfl) dX8_stopped_2 (fun H locs hP hD hS => ?_)
  have hP : va_P G vwCl [(q 0, .inr (8, [.int (nI 0), .ref (q 2), .ref (q 3), .int (Z 0 3), .ref (q 5), .int (Z 0 5), .ref (q 7), .int (Z 0 7), .int (Z 0 8), .int (Z 0 9), .int (Z 0 10), .int (Z 0 11), .ref (q 13), .int (Z 0 13), .ref (q 15), .long g])), (q 2, .inl (T 0, 267, .inl (Z 2))), (q 3, .inl (T 0, 1602, .inl (Z 3))), (q 5, .inl (T 0, 267, .inl (Z 5))), (q 7, .inl (T 0, 60, .inl (Z 7))), (q 13, .inl (T 0, 8, .inl (Z 13))), (q 15, .inl (T 0, 3, .inl (Z 15)))] H := hP
  have hD : va_D A [(q 0, .inr (8, [.int (nI 0), .ref (q 2), .ref (q 3), .int (Z 0 3), .ref (q 5), .int (Z 0 5), .ref (q 7), .int (Z 0 7), .int (Z 0 8), .int (Z 0 9), .int (Z 0 10), .int (Z 0 11), .ref (q 13), .int (Z 0 13), .ref (q 15), .long g])), (q 2, .inl (T 0, 267, .inl (Z 2))), (q 3, .inl (T 0, 1602, .inl (Z 3))), (q 5, .inl (T 0, 267, .inl (Z 5))), (q 7, .inl (T 0, 60, .inl (Z 7))), (q 13, .inl (T 0, 8, .inl (Z 13))), (q 15, .inl (T 0, 3, .inl (Z 15)))] := hD
  refine lv_iload_n hx hb dX8_stopped_5 rfl (lv_at hl 1 rfl) ?_
  refine n_iconst hx hb 0 dX8_stopped_6 (by decide) ?_
  refine n_iconst hx hb 1 dX8_stopped_7 (by decide) ?_
  refine k_roS (As := [.int (nI w), .int (nI 0), .int (nI 1)]) (rest := []) (wc := []) (d := 0) (v := bI (pWi (nI w) (nI 0) (nI 1))) cx (c_X8_within l G T A (nI w) (nI 0) (nI 1) ) (va_cwS 3 hts gX8_stopped_X8_within rfl rfl rfl (by decide +kernel) ⟨Nat.le_of_ble_eq_true rfl, Nat.le_of_ble_eq_true rfl⟩) (hP.sub (ws' := []) [] rfl) hK (hE.kept hS.2.1) rfl hl.1 rfl (Nat.le_of_ble_eq_true rfl) dX8_stopped_8 ⟨Nat.le_of_ble_eq_true rfl, Nat.le_of_ble_eq_true rfl⟩ ?_
  refine b_if_eq (b := pWi (nI w) (nI 0) (nI 1)) (tgt := 26) hx hb dX8_stopped_11 (by decide) (fun c_1 => by exfalso; rw [pWi_n (by omega) (by omega) (by decide)] at c_1; cases c_1) (fun c_2 => ?_)
  refine lv_aload_n hx hb dX8_stopped_14 rfl (lv_at hl 0 rfl) ?_
  refine va_get (D := G) (ci := 8) (v := .ref (q 2)) (C := RX8) (T := TX8) (N := 16) hx hb hts hinX8 hown hK hP 0 rfl rfl 1 (by decide) lk7 (fun _ h9 => h9) rfl dX8_stopped_15 ?_
  refine lv_bipush (v := nI 12) hx hb dX8_stopped_18 (by decide) ?_
  refine lv_iload_n hx hb dX8_stopped_20 rfl (lv_at hl 1 rfl) ?_
  refine n_iadd (a := 12) (b := w) hx hb dX8_stopped_21 ?_
  refine n_iald hx hb hK hP 1 0 rfl rfl (12 + w) (by omega) (by decide) dX8_stopped_22 ?_
  refine lv_goto (tgt := 31) hx hb dX8_stopped_23 (by decide) ?_
  subst hQ
  have hP9 : va_P G vwCl (oX8 T q (sc Z 0 (nI 0)) g) H := hP
  have hD9 : va_D A (oX8 T q (sc Z 0 (nI 0)) g) := hD
  exact e_rwi hx hb hr hlocks hS (by first | rfl | simp [bI, c_2]) hP9 hD9 dX8_stopped_31
set_option maxHeartbeats 4000000 in
set_option maxRecDepth 100000 in
theorem c_X8_latest (l : Launch) (G : va_G) (T : Nat → ClassId) (sz : Nat) (q : Nat → Nat) (Z : Nat → Nat → Int32) (g : Int64) (w : Nat) (hw : w < 6) : RWi l yX8_latest wsX8_latest 6 0 0 G T sz (oX8 T q Z g) [.ref (q 0), .int (nI w)] (Z 2 (6 + w)) (oX8 T q (sc Z 0 (nI 0)) g) := by
  refine Met.ofW (cc := cX8_latest) (maxL := 2) (ret := (some .int)) (by decide) rfl ?_
  intro p e s m args below meth c s₁ B hml hv
  obtain ⟨ha, hsz, hP, hK, hD0, hE0⟩ := hv
  have hx := B.exec
  have hb := B.bytes
  have hr := B.returns
  have hlocks := B.notSynchronized
  have hts := atoms_spec (ws := wsX8_latest) B.pre
  have hown : s.vm.findClass RX8 = some m.cls := findClass_of_methodNamed B.named
  have cx : CallFix p m c cX8_latest 2 s args wsX8_latest RX8 := ⟨hx, hb, hml, hown, hts⟩
  subst hsz
  have hD := hD0.self (sz := s.heap.size)
  generalize hAe : va_A (oX8 T q Z g) s.heap.size = A at hD hE0 ⊢
  have hE : gE A s s.heap := hE0
  have hA : ∀ q : Nat, s.heap.size ≤ q → A q := fun q h => by rw [← hAe]; exact Or.inr h
  have hS : va_S A s.heap s.heap [] := va_S.rf
  refine w_entry ha (Nat.le_of_ble_eq_true rfl) (fun ls hl => ?_)
  refine w_q (fun Q0 hQ => ?_)
  have lk28 := hts (.fieldLink RX8 28 "WhistleTunesModel" "thrown" "I") (by decide +kernel)
  have hinX8 : ∀ w ∈ wsX80, w ∈ wsX8_latest := by decide +kernel
  have lk7 := hts (.fieldLink RX8 7 "WhistleTunesModel" "state" "[I") (by decide +kernel)
  have hl : lv_has ls 2 [(0, .ref (q 0)), (1, .int (nI w))] := hl
  have hP : va_P G vwCl [(q 0, .inr (8, [.int (Z 0 0), .ref (q 2), .ref (q 3), .int (Z 0 3), .ref (q 5), .int (Z 0 5), .ref (q 7), .int (Z 0 7), .int (Z 0 8), .int (Z 0 9), .int (Z 0 10), .int (Z 0 11), .ref (q 13), .int (Z 0 13), .ref (q 15), .long g])), (q 2, .inl (T 0, 267, .inl (Z 2))), (q 3, .inl (T 0, 1602, .inl (Z 3))), (q 5, .inl (T 0, 267, .inl (Z 5))), (q 7, .inl (T 0, 60, .inl (Z 7))), (q 13, .inl (T 0, 8, .inl (Z 13))), (q 15, .inl (T 0, 3, .inl (Z 15)))] s.heap := hP
  have hD : va_D A [(q 0, .inr (8, [.int (Z 0 0), .ref (q 2), .ref (q 3), .int (Z 0 3), .ref (q 5), .int (Z 0 5), .ref (q 7), .int (Z 0 7), .int (Z 0 8), .int (Z 0 9), .int (Z 0 10), .int (Z 0 11), .ref (q 13), .int (Z 0 13), .ref (q 15), .long g])), (q 2, .inl (T 0, 267, .inl (Z 2))), (q 3, .inl (T 0, 1602, .inl (Z 3))), (q 5, .inl (T 0, 267, .inl (Z 5))), (q 7, .inl (T 0, 60, .inl (Z 7))), (q 13, .inl (T 0, 8, .inl (Z 13))), (q 15, .inl (T 0, 3, .inl (Z 15)))] := hD
  skip
  refine w_h (fun H locs hHe hLe => ?_)
  have hP : va_P G vwCl [(q 0, .inr (8, [.int (Z 0 0), .ref (q 2), .ref (q 3), .int (Z 0 3), .ref (q 5), .int (Z 0 5), .ref (q 7), .int (Z 0 7), .int (Z 0 8), .int (Z 0 9), .int (Z 0 10), .int (Z 0 11), .ref (q 13), .int (Z 0 13), .ref (q 15), .long g])), (q 2, .inl (T 0, 267, .inl (Z 2))), (q 3, .inl (T 0, 1602, .inl (Z 3))), (q 5, .inl (T 0, 267, .inl (Z 5))), (q 7, .inl (T 0, 60, .inl (Z 7))), (q 13, .inl (T 0, 8, .inl (Z 13))), (q 15, .inl (T 0, 3, .inl (Z 15)))] H := by rw [hHe]; exact hP
  have hS : va_S A s.heap H locs := by rw [hHe, hLe]; exact hS
  refine lv_aload_n hx hb dX8_latest_0 rfl (lv_at hl 0 rfl) ?_
  refine n_iconst hx hb 0 dX8_latest_1 (by decide) ?_
  refine va_put (D := G) (ci := 8) (v := .int (nI 0)) (ty := .int) (C := RX8) (T := TX8) (N := 16) hx hb hts hinX8 tyX8 tyX8_ok nmX8 hown hK hP hD hS 0 rfl rfl 0 (by decide) lk28 (fun _ h9 => h9) rfl (by decide +kernel) rfl rfl (Nat.le_of_ble_eq_true rfl) dX8_latest_2 (fun H locs hP hD hS => ?_)
  have hP : va_P G vwCl [(q 0, .inr (8, [.int (nI 0), .ref (q 2), .ref (q 3), .int (Z 0 3), .ref (q 5), .int (Z 0 5), .ref (q 7), .int (Z 0 7), .int (Z 0 8), .int (Z 0 9), .int (Z 0 10), .int (Z 0 11), .ref (q 13), .int (Z 0 13), .ref (q 15), .long g])), (q 2, .inl (T 0, 267, .inl (Z 2))), (q 3, .inl (T 0, 1602, .inl (Z 3))), (q 5, .inl (T 0, 267, .inl (Z 5))), (q 7, .inl (T 0, 60, .inl (Z 7))), (q 13, .inl (T 0, 8, .inl (Z 13))), (q 15, .inl (T 0, 3, .inl (Z 15)))] H := hP
  have hD : va_D A [(q 0, .inr (8, [.int (nI 0), .ref (q 2), .ref (q 3), .int (Z 0 3), .ref (q 5), .int (Z 0 5), .ref (q 7), .int (Z 0 7), .int (Z 0 8), .int (Z 0 9), .int (Z 0 10), .int (Z 0 11), .ref (q 13), .int (Z 0 13), .ref (q 15), .long g])), (q 2, .inl (T 0, 267, .inl (Z 2))), (q 3, .inl (T 0, 1602, .inl (Z 3))), (q 5, .inl (T 0, 267, .inl (Z 5))), (q 7, .inl (T 0, 60, .inl (Z 7))), (q 13, .inl (T 0, 8, .inl (Z 13))), (q 15, .inl (T 0, 3, .inl (Z 15)))] := hD
  refine lv_iload_n hx hb dX8_latest_5 rfl (lv_at hl 1 rfl) ?_
  refine n_iconst hx hb 0 dX8_latest_6 (by decide) ?_
  refine n_iconst hx hb 5 dX8_latest_7 (by decide) ?_
  refine k_roS (As := [.int (nI w), .int (nI 0), .int (nI 5)]) (rest := []) (wc := []) (d := 0) (v := bI (pWi (nI w) (nI 0) (nI 5))) cx (c_X8_within l G T A (nI w) (nI 0) (nI 5) ) (va_cwS 3 hts gX8_latest_X8_within rfl rfl rfl (by decide +kernel) ⟨Nat.le_of_ble_eq_true rfl, Nat.le_of_ble_eq_true rfl⟩) (hP.sub (ws' := []) [] rfl) hK (hE.kept hS.2.1) rfl hl.1 rfl (Nat.le_of_ble_eq_true rfl) dX8_latest_8 ⟨Nat.le_of_ble_eq_true rfl, Nat.le_of_ble_eq_true rfl⟩ ?_
  refine b_if_eq (b := pWi (nI w) (nI 0) (nI 5)) (tgt := 26) hx hb dX8_latest_11 (by decide) (fun c_1 => by exfalso; rw [pWi_n (by omega) (by omega) (by decide)] at c_1; cases c_1) (fun c_2 => ?_)
  refine lv_aload_n hx hb dX8_latest_14 rfl (lv_at hl 0 rfl) ?_
  refine va_get (D := G) (ci := 8) (v := .ref (q 2)) (C := RX8) (T := TX8) (N := 16) hx hb hts hinX8 hown hK hP 0 rfl rfl 1 (by decide) lk7 (fun _ h9 => h9) rfl dX8_latest_15 ?_
  refine lv_bipush (v := nI 6) hx hb dX8_latest_18 (by decide) ?_
  refine lv_iload_n hx hb dX8_latest_20 rfl (lv_at hl 1 rfl) ?_
  refine n_iadd (a := 6) (b := w) hx hb dX8_latest_21 ?_
  refine n_iald hx hb hK hP 1 0 rfl rfl (6 + w) (by omega) (by decide) dX8_latest_22 ?_
  refine lv_goto (tgt := 31) hx hb dX8_latest_23 (by decide) ?_
  subst hQ
  have hP9 : va_P G vwCl (oX8 T q (sc Z 0 (nI 0)) g) H := hP
  have hD9 : va_D A (oX8 T q (sc Z 0 (nI 0)) g) := hD
  exact e_rwi hx hb hr hlocks hS (by first | rfl | simp [bI, c_2]) hP9 hD9 dX8_latest_31
set_option maxHeartbeats 4000000 in
set_option maxRecDepth 100000 in
theorem c_X8_message (l : Launch) (G : va_G) (T : Nat → ClassId) (sz : Nat) (q : Nat → Nat) (Z : Nat → Nat → Int32) (g : Int64) (mm : Nat) (w : Nat) (hm20 : mm < 20) (hw : w ≤ 3) : RWi l yX8_message wsX8_message 6 0 0 G T sz (oX8 T q Z g) [.ref (q 0), .int (nI mm), .int (nI w)] (mTM (sc Z 0 (nI 0)) mm w) (oX8 T q (sc Z 0 (nI 0)) g) := by
  refine Met.ofW (cc := cX8_message) (maxL := 3) (ret := (some .int)) (by decide) rfl ?_
  intro p e s m args below meth c s₁ B hml hv
  obtain ⟨ha, hsz, hP, hK, hD0, hE0⟩ := hv
  have hx := B.exec
  have hb := B.bytes
  have hr := B.returns
  have hlocks := B.notSynchronized
  have hts := atoms_spec (ws := wsX8_message) B.pre
  have hown : s.vm.findClass RX8 = some m.cls := findClass_of_methodNamed B.named
  have cx : CallFix p m c cX8_message 3 s args wsX8_message RX8 := ⟨hx, hb, hml, hown, hts⟩
  subst hsz
  have hD := hD0.self (sz := s.heap.size)
  generalize hAe : va_A (oX8 T q Z g) s.heap.size = A at hD hE0 ⊢
  have hE : gE A s s.heap := hE0
  have hA : ∀ q : Nat, s.heap.size ≤ q → A q := fun q h => by rw [← hAe]; exact Or.inr h
  have hS : va_S A s.heap s.heap [] := va_S.rf
  refine w_entry ha (Nat.le_of_ble_eq_true rfl) (fun ls hl => ?_)
  refine w_q (fun Q0 hQ => ?_)
  have lk28 := hts (.fieldLink RX8 28 "WhistleTunesModel" "thrown" "I") (by decide +kernel)
  have hinX8 : ∀ w ∈ wsX80, w ∈ wsX8_message := by decide +kernel
  have hl : lv_has ls 3 [(0, .ref (q 0)), (1, .int (nI mm)), (2, .int (nI w))] := hl
  have hP : va_P G vwCl [(q 0, .inr (8, [.int (Z 0 0), .ref (q 2), .ref (q 3), .int (Z 0 3), .ref (q 5), .int (Z 0 5), .ref (q 7), .int (Z 0 7), .int (Z 0 8), .int (Z 0 9), .int (Z 0 10), .int (Z 0 11), .ref (q 13), .int (Z 0 13), .ref (q 15), .long g])), (q 2, .inl (T 0, 267, .inl (Z 2))), (q 3, .inl (T 0, 1602, .inl (Z 3))), (q 5, .inl (T 0, 267, .inl (Z 5))), (q 7, .inl (T 0, 60, .inl (Z 7))), (q 13, .inl (T 0, 8, .inl (Z 13))), (q 15, .inl (T 0, 3, .inl (Z 15)))] s.heap := hP
  have hD : va_D A [(q 0, .inr (8, [.int (Z 0 0), .ref (q 2), .ref (q 3), .int (Z 0 3), .ref (q 5), .int (Z 0 5), .ref (q 7), .int (Z 0 7), .int (Z 0 8), .int (Z 0 9), .int (Z 0 10), .int (Z 0 11), .ref (q 13), .int (Z 0 13), .ref (q 15), .long g])), (q 2, .inl (T 0, 267, .inl (Z 2))), (q 3, .inl (T 0, 1602, .inl (Z 3))), (q 5, .inl (T 0, 267, .inl (Z 5))), (q 7, .inl (T 0, 60, .inl (Z 7))), (q 13, .inl (T 0, 8, .inl (Z 13))), (q 15, .inl (T 0, 3, .inl (Z 15)))] := hD
  skip
  refine w_h (fun H locs hHe hLe => ?_)
  have hP : va_P G vwCl [(q 0, .inr (8, [.int (Z 0 0), .ref (q 2), .ref (q 3), .int (Z 0 3), .ref (q 5), .int (Z 0 5), .ref (q 7), .int (Z 0 7), .int (Z 0 8), .int (Z 0 9), .int (Z 0 10), .int (Z 0 11), .ref (q 13), .int (Z 0 13), .ref (q 15), .long g])), (q 2, .inl (T 0, 267, .inl (Z 2))), (q 3, .inl (T 0, 1602, .inl (Z 3))), (q 5, .inl (T 0, 267, .inl (Z 5))), (q 7, .inl (T 0, 60, .inl (Z 7))), (q 13, .inl (T 0, 8, .inl (Z 13))), (q 15, .inl (T 0, 3, .inl (Z 15)))] H := by rw [hHe]; exact hP
  have hS : va_S A s.heap H locs := by rw [hHe, hLe]; exact hS
  refine lv_aload_n hx hb dX8_message_0 rfl (lv_at hl 0 rfl) ?_
  refine n_iconst hx hb 0 dX8_message_1 (by decide) ?_
  refine va_put (D := G) (ci := 8) (v := .int (nI 0)) (ty := .int) (C := RX8) (T := TX8) (N := 16) hx hb hts hinX8 tyX8 tyX8_ok nmX8 hown hK hP hD hS 0 rfl rfl 0 (by decide) lk28 (fun _ h9 => h9) rfl (by decide +kernel) rfl rfl (Nat.le_of_ble_eq_true rfl) dX8_message_2 (fun H locs hP hD hS => ?_)
  have hP : va_P G vwCl [(q 0, .inr (8, [.int (nI 0), .ref (q 2), .ref (q 3), .int (Z 0 3), .ref (q 5), .int (Z 0 5), .ref (q 7), .int (Z 0 7), .int (Z 0 8), .int (Z 0 9), .int (Z 0 10), .int (Z 0 11), .ref (q 13), .int (Z 0 13), .ref (q 15), .long g])), (q 2, .inl (T 0, 267, .inl (Z 2))), (q 3, .inl (T 0, 1602, .inl (Z 3))), (q 5, .inl (T 0, 267, .inl (Z 5))), (q 7, .inl (T 0, 60, .inl (Z 7))), (q 13, .inl (T 0, 8, .inl (Z 13))), (q 15, .inl (T 0, 3, .inl (Z 15)))] H := hP
  have hD : va_D A [(q 0, .inr (8, [.int (nI 0), .ref (q 2), .ref (q 3), .int (Z 0 3), .ref (q 5), .int (Z 0 5), .ref (q 7), .int (Z 0 7), .int (Z 0 8), .int (Z 0 9), .int (Z 0 10), .int (Z 0 11), .ref (q 13), .int (Z 0 13), .ref (q 15), .long g])), (q 2, .inl (T 0, 267, .inl (Z 2))), (q 3, .inl (T 0, 1602, .inl (Z 3))), (q 5, .inl (T 0, 267, .inl (Z 5))), (q 7, .inl (T 0, 60, .inl (Z 7))), (q 13, .inl (T 0, 8, .inl (Z 13))), (q 15, .inl (T 0, 3, .inl (Z 15)))] := hD
  refine lv_iload_n hx hb dX8_message_5 rfl (lv_at hl 1 rfl) ?_
  refine k_roS (As := [.int (nI mm)]) (rest := []) (wc := []) (d := 1) (v := bI (pWi (nI mm) (nI 0) (nI 19))) cx (c_X8_isMessage l G T A (nI mm) ) (va_cwS 1 hts gX8_message_X8_isMessage rfl rfl rfl (by decide +kernel) ⟨Nat.le_of_ble_eq_true rfl, Nat.le_of_ble_eq_true rfl⟩) (hP.sub (ws' := []) [] rfl) hK (hE.kept hS.2.1) rfl hl.1 rfl (Nat.le_of_ble_eq_true rfl) dX8_message_6 ⟨Nat.le_of_ble_eq_true rfl, Nat.le_of_ble_eq_true rfl⟩ ?_
  refine b_if_ne (b := pWi (nI mm) (nI 0) (nI 19)) (tgt := 18) hx hb dX8_message_9 (by decide) (fun c_1 => ?_) (fun c_2 => by exfalso; rw [pWi_n (by omega) (by omega) (by decide)] at c_2; cases c_2)
  refine lv_iload_n hx hb dX8_message_18 rfl (lv_at hl 2 rfl) ?_
  refine n_iconst hx hb 0 dX8_message_19 (by decide) ?_
  refine n_iconst hx hb 3 dX8_message_20 (by decide) ?_
  refine k_roS (As := [.int (nI w), .int (nI 0), .int (nI 3)]) (rest := []) (wc := []) (d := 0) (v := bI (pWi (nI w) (nI 0) (nI 3))) cx (c_X8_within l G T A (nI w) (nI 0) (nI 3) ) (va_cwS 3 hts gX8_message_X8_within rfl rfl rfl (by decide +kernel) ⟨Nat.le_of_ble_eq_true rfl, Nat.le_of_ble_eq_true rfl⟩) (hP.sub (ws' := []) [] rfl) hK (hE.kept hS.2.1) rfl hl.1 rfl (Nat.le_of_ble_eq_true rfl) dX8_message_21 ⟨Nat.le_of_ble_eq_true rfl, Nat.le_of_ble_eq_true rfl⟩ ?_
  refine b_if_eq (b := pWi (nI w) (nI 0) (nI 3)) (tgt := 36) hx hb dX8_message_24 (by decide) (fun c_3 => by exfalso; rw [pWi_n (by omega) (by omega) (by decide)] at c_3; cases c_3) (fun c_4 => ?_)
  refine lv_aload_n hx hb dX8_message_27 rfl (lv_at hl 0 rfl) ?_
  refine lv_iload_n hx hb dX8_message_28 rfl (lv_at hl 1 rfl) ?_
  refine lv_iload_n hx hb dX8_message_29 rfl (lv_at hl 2 rfl) ?_
  refine k_roV (As := [.int (nI mm), .int (nI w)]) (rest := []) (wc := oX8 T q (sc Z 0 (nI 0)) g) (d := 1) (v := mTM (sc Z 0 (nI 0)) mm w) cx (c_X8_tellsMessage l G T A q (sc Z 0 (nI 0)) g mm w (by omega) (by omega)) (cwV 2 hts gX8_message_X8_tellsMessage rfl rfl rfl (by decide +kernel) ⟨Nat.le_of_ble_eq_true rfl, Nat.le_of_ble_eq_true rfl⟩) hP hK (hE.kept hS.2.1) (va_recv hK hP (ci := 8) (q0 := 0) rfl rfl) rfl hl.1 rfl (Nat.le_of_ble_eq_true rfl) dX8_message_30 ⟨Nat.le_of_ble_eq_true rfl, Nat.le_of_ble_eq_true rfl⟩ ?_
  refine lv_goto (tgt := 41) hx hb dX8_message_33 (by decide) ?_
  subst hQ
  have hP9 : va_P G vwCl (oX8 T q (sc Z 0 (nI 0)) g) H := hP
  have hD9 : va_D A (oX8 T q (sc Z 0 (nI 0)) g) := hD
  exact e_rwi hx hb hr hlocks hS (by first | rfl | simp [bI, c_1, c_4]) hP9 hD9 dX8_message_41
set_option maxHeartbeats 4000000 in
set_option maxRecDepth 100000 in
theorem c_X8_note (l : Launch) (G : va_G) (T : Nat → ClassId) (sz : Nat) (q : Nat → Nat) (Z : Nat → Nat → Int32) (g : Int64) (mm : Nat) (w : Nat) (hm20 : mm < 20) (hw : w < 8) : RWi l yX8_note wsX8_note 6 0 0 G T sz (oX8 T q Z g) [.ref (q 0), .int (nI mm), .int (nI w)] (mTN (sc Z 0 (nI 0)) mm w) (oX8 T q (sc Z 0 (nI 0)) g) := by
  refine Met.ofW (cc := cX8_note) (maxL := 3) (ret := (some .int)) (by decide) rfl ?_
  intro p e s m args below meth c s₁ B hml hv
  obtain ⟨ha, hsz, hP, hK, hD0, hE0⟩ := hv
  have hx := B.exec
  have hb := B.bytes
  have hr := B.returns
  have hlocks := B.notSynchronized
  have hts := atoms_spec (ws := wsX8_note) B.pre
  have hown : s.vm.findClass RX8 = some m.cls := findClass_of_methodNamed B.named
  have cx : CallFix p m c cX8_note 3 s args wsX8_note RX8 := ⟨hx, hb, hml, hown, hts⟩
  subst hsz
  have hD := hD0.self (sz := s.heap.size)
  generalize hAe : va_A (oX8 T q Z g) s.heap.size = A at hD hE0 ⊢
  have hE : gE A s s.heap := hE0
  have hA : ∀ q : Nat, s.heap.size ≤ q → A q := fun q h => by rw [← hAe]; exact Or.inr h
  have hS : va_S A s.heap s.heap [] := va_S.rf
  refine w_entry ha (Nat.le_of_ble_eq_true rfl) (fun ls hl => ?_)
  refine w_q (fun Q0 hQ => ?_)
  have lk28 := hts (.fieldLink RX8 28 "WhistleTunesModel" "thrown" "I") (by decide +kernel)
  have hinX8 : ∀ w ∈ wsX80, w ∈ wsX8_note := by decide +kernel
  have hl : lv_has ls 3 [(0, .ref (q 0)), (1, .int (nI mm)), (2, .int (nI w))] := hl
  have hP : va_P G vwCl [(q 0, .inr (8, [.int (Z 0 0), .ref (q 2), .ref (q 3), .int (Z 0 3), .ref (q 5), .int (Z 0 5), .ref (q 7), .int (Z 0 7), .int (Z 0 8), .int (Z 0 9), .int (Z 0 10), .int (Z 0 11), .ref (q 13), .int (Z 0 13), .ref (q 15), .long g])), (q 2, .inl (T 0, 267, .inl (Z 2))), (q 3, .inl (T 0, 1602, .inl (Z 3))), (q 5, .inl (T 0, 267, .inl (Z 5))), (q 7, .inl (T 0, 60, .inl (Z 7))), (q 13, .inl (T 0, 8, .inl (Z 13))), (q 15, .inl (T 0, 3, .inl (Z 15)))] s.heap := hP
  have hD : va_D A [(q 0, .inr (8, [.int (Z 0 0), .ref (q 2), .ref (q 3), .int (Z 0 3), .ref (q 5), .int (Z 0 5), .ref (q 7), .int (Z 0 7), .int (Z 0 8), .int (Z 0 9), .int (Z 0 10), .int (Z 0 11), .ref (q 13), .int (Z 0 13), .ref (q 15), .long g])), (q 2, .inl (T 0, 267, .inl (Z 2))), (q 3, .inl (T 0, 1602, .inl (Z 3))), (q 5, .inl (T 0, 267, .inl (Z 5))), (q 7, .inl (T 0, 60, .inl (Z 7))), (q 13, .inl (T 0, 8, .inl (Z 13))), (q 15, .inl (T 0, 3, .inl (Z 15)))] := hD
  skip
  refine w_h (fun H locs hHe hLe => ?_)
  have hP : va_P G vwCl [(q 0, .inr (8, [.int (Z 0 0), .ref (q 2), .ref (q 3), .int (Z 0 3), .ref (q 5), .int (Z 0 5), .ref (q 7), .int (Z 0 7), .int (Z 0 8), .int (Z 0 9), .int (Z 0 10), .int (Z 0 11), .ref (q 13), .int (Z 0 13), .ref (q 15), .long g])), (q 2, .inl (T 0, 267, .inl (Z 2))), (q 3, .inl (T 0, 1602, .inl (Z 3))), (q 5, .inl (T 0, 267, .inl (Z 5))), (q 7, .inl (T 0, 60, .inl (Z 7))), (q 13, .inl (T 0, 8, .inl (Z 13))), (q 15, .inl (T 0, 3, .inl (Z 15)))] H := by rw [hHe]; exact hP
  have hS : va_S A s.heap H locs := by rw [hHe, hLe]; exact hS
  refine lv_aload_n hx hb dX8_note_0 rfl (lv_at hl 0 rfl) ?_
  refine n_iconst hx hb 0 dX8_note_1 (by decide) ?_
  refine va_put (D := G) (ci := 8) (v := .int (nI 0)) (ty := .int) (C := RX8) (T := TX8) (N := 16) hx hb hts hinX8 tyX8 tyX8_ok nmX8 hown hK hP hD hS 0 rfl rfl 0 (by decide) lk28 (fun _ h9 => h9) rfl (by decide +kernel) rfl rfl (Nat.le_of_ble_eq_true rfl) dX8_note_2 (fun H locs hP hD hS => ?_)
  have hP : va_P G vwCl [(q 0, .inr (8, [.int (nI 0), .ref (q 2), .ref (q 3), .int (Z 0 3), .ref (q 5), .int (Z 0 5), .ref (q 7), .int (Z 0 7), .int (Z 0 8), .int (Z 0 9), .int (Z 0 10), .int (Z 0 11), .ref (q 13), .int (Z 0 13), .ref (q 15), .long g])), (q 2, .inl (T 0, 267, .inl (Z 2))), (q 3, .inl (T 0, 1602, .inl (Z 3))), (q 5, .inl (T 0, 267, .inl (Z 5))), (q 7, .inl (T 0, 60, .inl (Z 7))), (q 13, .inl (T 0, 8, .inl (Z 13))), (q 15, .inl (T 0, 3, .inl (Z 15)))] H := hP
  have hD : va_D A [(q 0, .inr (8, [.int (nI 0), .ref (q 2), .ref (q 3), .int (Z 0 3), .ref (q 5), .int (Z 0 5), .ref (q 7), .int (Z 0 7), .int (Z 0 8), .int (Z 0 9), .int (Z 0 10), .int (Z 0 11), .ref (q 13), .int (Z 0 13), .ref (q 15), .long g])), (q 2, .inl (T 0, 267, .inl (Z 2))), (q 3, .inl (T 0, 1602, .inl (Z 3))), (q 5, .inl (T 0, 267, .inl (Z 5))), (q 7, .inl (T 0, 60, .inl (Z 7))), (q 13, .inl (T 0, 8, .inl (Z 13))), (q 15, .inl (T 0, 3, .inl (Z 15)))] := hD
  refine lv_iload_n hx hb dX8_note_5 rfl (lv_at hl 1 rfl) ?_
  refine k_roS (As := [.int (nI mm)]) (rest := []) (wc := []) (d := 1) (v := bI (pWi (nI mm) (nI 0) (nI 19))) cx (c_X8_isMessage l G T A (nI mm) ) (va_cwS 1 hts gX8_note_X8_isMessage rfl rfl rfl (by decide +kernel) ⟨Nat.le_of_ble_eq_true rfl, Nat.le_of_ble_eq_true rfl⟩) (hP.sub (ws' := []) [] rfl) hK (hE.kept hS.2.1) rfl hl.1 rfl (Nat.le_of_ble_eq_true rfl) dX8_note_6 ⟨Nat.le_of_ble_eq_true rfl, Nat.le_of_ble_eq_true rfl⟩ ?_
  refine b_if_ne (b := pWi (nI mm) (nI 0) (nI 19)) (tgt := 18) hx hb dX8_note_9 (by decide) (fun c_1 => ?_) (fun c_2 => by exfalso; rw [pWi_n (by omega) (by omega) (by decide)] at c_2; cases c_2)
  refine lv_iload_n hx hb dX8_note_18 rfl (lv_at hl 2 rfl) ?_
  refine n_iconst hx hb 0 dX8_note_19 (by decide) ?_
  refine lv_bipush (v := nI 7) hx hb dX8_note_20 (by decide) ?_
  refine k_roS (As := [.int (nI w), .int (nI 0), .int (nI 7)]) (rest := []) (wc := []) (d := 0) (v := bI (pWi (nI w) (nI 0) (nI 7))) cx (c_X8_within l G T A (nI w) (nI 0) (nI 7) ) (va_cwS 3 hts gX8_note_X8_within rfl rfl rfl (by decide +kernel) ⟨Nat.le_of_ble_eq_true rfl, Nat.le_of_ble_eq_true rfl⟩) (hP.sub (ws' := []) [] rfl) hK (hE.kept hS.2.1) rfl hl.1 rfl (Nat.le_of_ble_eq_true rfl) dX8_note_22 ⟨Nat.le_of_ble_eq_true rfl, Nat.le_of_ble_eq_true rfl⟩ ?_
  refine b_if_eq (b := pWi (nI w) (nI 0) (nI 7)) (tgt := 37) hx hb dX8_note_25 (by decide) (fun c_3 => by exfalso; rw [pWi_n (by omega) (by omega) (by decide)] at c_3; cases c_3) (fun c_4 => ?_)
  refine lv_aload_n hx hb dX8_note_28 rfl (lv_at hl 0 rfl) ?_
  refine lv_iload_n hx hb dX8_note_29 rfl (lv_at hl 1 rfl) ?_
  refine lv_iload_n hx hb dX8_note_30 rfl (lv_at hl 2 rfl) ?_
  refine k_roV (As := [.int (nI mm), .int (nI w)]) (rest := []) (wc := oX8 T q (sc Z 0 (nI 0)) g) (d := 1) (v := mTN (sc Z 0 (nI 0)) mm w) cx (c_X8_tellsNote l G T A q (sc Z 0 (nI 0)) g mm w (by omega) (by omega)) (cwV 2 hts gX8_note_X8_tellsNote rfl rfl rfl (by decide +kernel) ⟨Nat.le_of_ble_eq_true rfl, Nat.le_of_ble_eq_true rfl⟩) hP hK (hE.kept hS.2.1) (va_recv hK hP (ci := 8) (q0 := 0) rfl rfl) rfl hl.1 rfl (Nat.le_of_ble_eq_true rfl) dX8_note_31 ⟨Nat.le_of_ble_eq_true rfl, Nat.le_of_ble_eq_true rfl⟩ ?_
  refine lv_goto (tgt := 42) hx hb dX8_note_34 (by decide) ?_
  subst hQ
  have hP9 : va_P G vwCl (oX8 T q (sc Z 0 (nI 0)) g) H := hP
  have hD9 : va_D A (oX8 T q (sc Z 0 (nI 0)) g) := hD
  exact e_rwi hx hb hr hlocks hS (by first | rfl | simp [bI, c_1, c_4]) hP9 hD9 dX8_note_42
set_option maxHeartbeats 4000000 in
set_option maxRecDepth 100000 in
theorem c_X8_room (l : Launch) (G : va_G) (T : Nat → ClassId) (sz : Nat) (q : Nat → Nat) (Z : Nat → Nat → Int32) (g : Int64) (r : Nat) (w : Nat) (hr6 : r < 6) (hw : w ≤ 5) : RWi l yX8_room wsX8_room 6 0 0 G T sz (oX8 T q Z g) [.ref (q 0), .int (nI r), .int (nI w)] (mTR (sc Z 0 (nI 0)) r w) (oX8 T q (sc Z 0 (nI 0)) g) := by
  refine Met.ofW (cc := cX8_room) (maxL := 3) (ret := (some .int)) (by decide) rfl ?_
  intro p e s m args below meth c s₁ B hml hv
  obtain ⟨ha, hsz, hP, hK, hD0, hE0⟩ := hv
  have hx := B.exec
  have hb := B.bytes
  have hr := B.returns
  have hlocks := B.notSynchronized
  have hts := atoms_spec (ws := wsX8_room) B.pre
  have hown : s.vm.findClass RX8 = some m.cls := findClass_of_methodNamed B.named
  have cx : CallFix p m c cX8_room 3 s args wsX8_room RX8 := ⟨hx, hb, hml, hown, hts⟩
  subst hsz
  have hD := hD0.self (sz := s.heap.size)
  generalize hAe : va_A (oX8 T q Z g) s.heap.size = A at hD hE0 ⊢
  have hE : gE A s s.heap := hE0
  have hA : ∀ q : Nat, s.heap.size ≤ q → A q := fun q h => by rw [← hAe]; exact Or.inr h
  have hS : va_S A s.heap s.heap [] := va_S.rf
  refine w_entry ha (Nat.le_of_ble_eq_true rfl) (fun ls hl => ?_)
  refine w_q (fun Q0 hQ => ?_)
  have lk28 := hts (.fieldLink RX8 28 "WhistleTunesModel" "thrown" "I") (by decide +kernel)
  have hinX8 : ∀ w ∈ wsX80, w ∈ wsX8_room := by decide +kernel
  have hl : lv_has ls 3 [(0, .ref (q 0)), (1, .int (nI r)), (2, .int (nI w))] := hl
  have hP : va_P G vwCl [(q 0, .inr (8, [.int (Z 0 0), .ref (q 2), .ref (q 3), .int (Z 0 3), .ref (q 5), .int (Z 0 5), .ref (q 7), .int (Z 0 7), .int (Z 0 8), .int (Z 0 9), .int (Z 0 10), .int (Z 0 11), .ref (q 13), .int (Z 0 13), .ref (q 15), .long g])), (q 2, .inl (T 0, 267, .inl (Z 2))), (q 3, .inl (T 0, 1602, .inl (Z 3))), (q 5, .inl (T 0, 267, .inl (Z 5))), (q 7, .inl (T 0, 60, .inl (Z 7))), (q 13, .inl (T 0, 8, .inl (Z 13))), (q 15, .inl (T 0, 3, .inl (Z 15)))] s.heap := hP
  have hD : va_D A [(q 0, .inr (8, [.int (Z 0 0), .ref (q 2), .ref (q 3), .int (Z 0 3), .ref (q 5), .int (Z 0 5), .ref (q 7), .int (Z 0 7), .int (Z 0 8), .int (Z 0 9), .int (Z 0 10), .int (Z 0 11), .ref (q 13), .int (Z 0 13), .ref (q 15), .long g])), (q 2, .inl (T 0, 267, .inl (Z 2))), (q 3, .inl (T 0, 1602, .inl (Z 3))), (q 5, .inl (T 0, 267, .inl (Z 5))), (q 7, .inl (T 0, 60, .inl (Z 7))), (q 13, .inl (T 0, 8, .inl (Z 13))), (q 15, .inl (T 0, 3, .inl (Z 15)))] := hD
  skip
  refine w_h (fun H locs hHe hLe => ?_)
  have hP : va_P G vwCl [(q 0, .inr (8, [.int (Z 0 0), .ref (q 2), .ref (q 3), .int (Z 0 3), .ref (q 5), .int (Z 0 5), .ref (q 7), .int (Z 0 7), .int (Z 0 8), .int (Z 0 9), .int (Z 0 10), .int (Z 0 11), .ref (q 13), .int (Z 0 13), .ref (q 15), .long g])), (q 2, .inl (T 0, 267, .inl (Z 2))), (q 3, .inl (T 0, 1602, .inl (Z 3))), (q 5, .inl (T 0, 267, .inl (Z 5))), (q 7, .inl (T 0, 60, .inl (Z 7))), (q 13, .inl (T 0, 8, .inl (Z 13))), (q 15, .inl (T 0, 3, .inl (Z 15)))] H := by rw [hHe]; exact hP
  have hS : va_S A s.heap H locs := by rw [hHe, hLe]; exact hS
  refine lv_aload_n hx hb dX8_room_0 rfl (lv_at hl 0 rfl) ?_
  refine n_iconst hx hb 0 dX8_room_1 (by decide) ?_
  refine va_put (D := G) (ci := 8) (v := .int (nI 0)) (ty := .int) (C := RX8) (T := TX8) (N := 16) hx hb hts hinX8 tyX8 tyX8_ok nmX8 hown hK hP hD hS 0 rfl rfl 0 (by decide) lk28 (fun _ h9 => h9) rfl (by decide +kernel) rfl rfl (Nat.le_of_ble_eq_true rfl) dX8_room_2 (fun H locs hP hD hS => ?_)
  have hP : va_P G vwCl [(q 0, .inr (8, [.int (nI 0), .ref (q 2), .ref (q 3), .int (Z 0 3), .ref (q 5), .int (Z 0 5), .ref (q 7), .int (Z 0 7), .int (Z 0 8), .int (Z 0 9), .int (Z 0 10), .int (Z 0 11), .ref (q 13), .int (Z 0 13), .ref (q 15), .long g])), (q 2, .inl (T 0, 267, .inl (Z 2))), (q 3, .inl (T 0, 1602, .inl (Z 3))), (q 5, .inl (T 0, 267, .inl (Z 5))), (q 7, .inl (T 0, 60, .inl (Z 7))), (q 13, .inl (T 0, 8, .inl (Z 13))), (q 15, .inl (T 0, 3, .inl (Z 15)))] H := hP
  have hD : va_D A [(q 0, .inr (8, [.int (nI 0), .ref (q 2), .ref (q 3), .int (Z 0 3), .ref (q 5), .int (Z 0 5), .ref (q 7), .int (Z 0 7), .int (Z 0 8), .int (Z 0 9), .int (Z 0 10), .int (Z 0 11), .ref (q 13), .int (Z 0 13), .ref (q 15), .long g])), (q 2, .inl (T 0, 267, .inl (Z 2))), (q 3, .inl (T 0, 1602, .inl (Z 3))), (q 5, .inl (T 0, 267, .inl (Z 5))), (q 7, .inl (T 0, 60, .inl (Z 7))), (q 13, .inl (T 0, 8, .inl (Z 13))), (q 15, .inl (T 0, 3, .inl (Z 15)))] := hD
  refine lv_iload_n hx hb dX8_room_5 rfl (lv_at hl 1 rfl) ?_
  refine k_roS (As := [.int (nI r)]) (rest := []) (wc := []) (d := 1) (v := bI (pWi (nI r) (nI 0) (nI 5))) cx (c_X8_isRoom l G T A (nI r) ) (va_cwS 1 hts gX8_room_X8_isRoom rfl rfl rfl (by decide +kernel) ⟨Nat.le_of_ble_eq_true rfl, Nat.le_of_ble_eq_true rfl⟩) (hP.sub (ws' := []) [] rfl) hK (hE.kept hS.2.1) rfl hl.1 rfl (Nat.le_of_ble_eq_true rfl) dX8_room_6 ⟨Nat.le_of_ble_eq_true rfl, Nat.le_of_ble_eq_true rfl⟩ ?_
  refine b_if_ne (b := pWi (nI r) (nI 0) (nI 5)) (tgt := 18) hx hb dX8_room_9 (by decide) (fun c_1 => ?_) (fun c_2 => by exfalso; rw [pWi_n (by omega) (by omega) (by decide)] at c_2; cases c_2)
  refine lv_iload_n hx hb dX8_room_18 rfl (lv_at hl 2 rfl) ?_
  refine n_iconst hx hb 0 dX8_room_19 (by decide) ?_
  refine n_iconst hx hb 5 dX8_room_20 (by decide) ?_
  refine k_roS (As := [.int (nI w), .int (nI 0), .int (nI 5)]) (rest := []) (wc := []) (d := 0) (v := bI (pWi (nI w) (nI 0) (nI 5))) cx (c_X8_within l G T A (nI w) (nI 0) (nI 5) ) (va_cwS 3 hts gX8_room_X8_within rfl rfl rfl (by decide +kernel) ⟨Nat.le_of_ble_eq_true rfl, Nat.le_of_ble_eq_true rfl⟩) (hP.sub (ws' := []) [] rfl) hK (hE.kept hS.2.1) rfl hl.1 rfl (Nat.le_of_ble_eq_true rfl) dX8_room_21 ⟨Nat.le_of_ble_eq_true rfl, Nat.le_of_ble_eq_true rfl⟩ ?_
  refine b_if_eq (b := pWi (nI w) (nI 0) (nI 5)) (tgt := 36) hx hb dX8_room_24 (by decide) (fun c_3 => by exfalso; rw [pWi_n (by omega) (by omega) (by decide)] at c_3; cases c_3) (fun c_4 => ?_)
  refine lv_aload_n hx hb dX8_room_27 rfl (lv_at hl 0 rfl) ?_
  refine lv_iload_n hx hb dX8_room_28 rfl (lv_at hl 1 rfl) ?_
  refine lv_iload_n hx hb dX8_room_29 rfl (lv_at hl 2 rfl) ?_
  refine k_roV (As := [.int (nI r), .int (nI w)]) (rest := []) (wc := oX8 T q (sc Z 0 (nI 0)) g) (d := 2) (v := mTR (sc Z 0 (nI 0)) r w) cx (c_X8_tellsRoom l G T A q (sc Z 0 (nI 0)) g r w (by omega) (by omega)) (cwV 2 hts gX8_room_X8_tellsRoom rfl rfl rfl (by decide +kernel) ⟨Nat.le_of_ble_eq_true rfl, Nat.le_of_ble_eq_true rfl⟩) hP hK (hE.kept hS.2.1) (va_recv hK hP (ci := 8) (q0 := 0) rfl rfl) rfl hl.1 rfl (Nat.le_of_ble_eq_true rfl) dX8_room_30 ⟨Nat.le_of_ble_eq_true rfl, Nat.le_of_ble_eq_true rfl⟩ ?_
  refine lv_goto (tgt := 41) hx hb dX8_room_33 (by decide) ?_
  subst hQ
  have hP9 : va_P G vwCl (oX8 T q (sc Z 0 (nI 0)) g) H := hP
  have hD9 : va_D A (oX8 T q (sc Z 0 (nI 0)) g) := hD
  exact e_rwi hx hb hr hlocks hS (by first | rfl | simp [bI, c_1, c_4]) hP9 hD9 dX8_room_41
set_option maxHeartbeats 4000000 in
set_option maxRecDepth 100000 in
theorem c_X8_count (l : Launch) (G : va_G) (T : Nat → ClassId) (sz : Nat) (q : Nat → Nat) (Z : Nat → Nat → Int32) (g : Int64) (ln : Nat → Nat) (w : Nat) (hln : ∀ i : Nat, i < 20 → Z 2 (47 + 11 * i) = nI (ln i)) (hln8 : ∀ i : Nat, i < 20 → ln i ≤ 8) (hw : w ≤ 13) : RWi l yX8_count wsX8_count 6 0 0 G T sz (oX8 T q Z g) [.ref (q 0), .int (nI w)] (mTC (sc Z 0 (nI 0)) ln w) (oX8 T q (sc Z 0 (nI 0)) g) := by
  refine Met.ofW (cc := cX8_count) (maxL := 2) (ret := (some .int)) (by decide) rfl ?_
  intro p e s m args below meth c s₁ B hml hv
  obtain ⟨ha, hsz, hP, hK, hD0, hE0⟩ := hv
  have hx := B.exec
  have hb := B.bytes
  have hr := B.returns
  have hlocks := B.notSynchronized
  have hts := atoms_spec (ws := wsX8_count) B.pre
  have hown : s.vm.findClass RX8 = some m.cls := findClass_of_methodNamed B.named
  have cx : CallFix p m c cX8_count 2 s args wsX8_count RX8 := ⟨hx, hb, hml, hown, hts⟩
  subst hsz
  have hD := hD0.self (sz := s.heap.size)
  generalize hAe : va_A (oX8 T q Z g) s.heap.size = A at hD hE0 ⊢
  have hE : gE A s s.heap := hE0
  have hA : ∀ q : Nat, s.heap.size ≤ q → A q := fun q h => by rw [← hAe]; exact Or.inr h
  have hS : va_S A s.heap s.heap [] := va_S.rf
  refine w_entry ha (Nat.le_of_ble_eq_true rfl) (fun ls hl => ?_)
  refine w_q (fun Q0 hQ => ?_)
  have lk28 := hts (.fieldLink RX8 28 "WhistleTunesModel" "thrown" "I") (by decide +kernel)
  have hinX8 : ∀ w ∈ wsX80, w ∈ wsX8_count := by decide +kernel
  have hl : lv_has ls 2 [(0, .ref (q 0)), (1, .int (nI w))] := hl
  have hP : va_P G vwCl [(q 0, .inr (8, [.int (Z 0 0), .ref (q 2), .ref (q 3), .int (Z 0 3), .ref (q 5), .int (Z 0 5), .ref (q 7), .int (Z 0 7), .int (Z 0 8), .int (Z 0 9), .int (Z 0 10), .int (Z 0 11), .ref (q 13), .int (Z 0 13), .ref (q 15), .long g])), (q 2, .inl (T 0, 267, .inl (Z 2))), (q 3, .inl (T 0, 1602, .inl (Z 3))), (q 5, .inl (T 0, 267, .inl (Z 5))), (q 7, .inl (T 0, 60, .inl (Z 7))), (q 13, .inl (T 0, 8, .inl (Z 13))), (q 15, .inl (T 0, 3, .inl (Z 15)))] s.heap := hP
  have hD : va_D A [(q 0, .inr (8, [.int (Z 0 0), .ref (q 2), .ref (q 3), .int (Z 0 3), .ref (q 5), .int (Z 0 5), .ref (q 7), .int (Z 0 7), .int (Z 0 8), .int (Z 0 9), .int (Z 0 10), .int (Z 0 11), .ref (q 13), .int (Z 0 13), .ref (q 15), .long g])), (q 2, .inl (T 0, 267, .inl (Z 2))), (q 3, .inl (T 0, 1602, .inl (Z 3))), (q 5, .inl (T 0, 267, .inl (Z 5))), (q 7, .inl (T 0, 60, .inl (Z 7))), (q 13, .inl (T 0, 8, .inl (Z 13))), (q 15, .inl (T 0, 3, .inl (Z 15)))] := hD
  skip
  refine w_h (fun H locs hHe hLe => ?_)
  have hP : va_P G vwCl [(q 0, .inr (8, [.int (Z 0 0), .ref (q 2), .ref (q 3), .int (Z 0 3), .ref (q 5), .int (Z 0 5), .ref (q 7), .int (Z 0 7), .int (Z 0 8), .int (Z 0 9), .int (Z 0 10), .int (Z 0 11), .ref (q 13), .int (Z 0 13), .ref (q 15), .long g])), (q 2, .inl (T 0, 267, .inl (Z 2))), (q 3, .inl (T 0, 1602, .inl (Z 3))), (q 5, .inl (T 0, 267, .inl (Z 5))), (q 7, .inl (T 0, 60, .inl (Z 7))), (q 13, .inl (T 0, 8, .inl (Z 13))), (q 15, .inl (T 0, 3, .inl (Z 15)))] H := by rw [hHe]; exact hP
  have hS : va_S A s.heap H locs := by rw [hHe, hLe]; exact hS
  refine lv_aload_n hx hb dX8_count_0 rfl (lv_at hl 0 rfl) ?_
  refine n_iconst hx hb 0 dX8_count_1 (by decide) ?_
  refine va_put (D := G) (ci := 8) (v := .int (nI 0)) (ty := .int) (C := RX8) (T := TX8) (N := 16) hx hb hts hinX8 tyX8 tyX8_ok nmX8 hown hK hP hD hS 0 rfl rfl 0 (by decide) lk28 (fun _ h9 => h9) rfl (by decide +kernel) rfl rfl (Nat.le_of_ble_eq_true rfl) dX8_count_2 (fun H locs hP hD hS => ?_)
  have hP : va_P G vwCl [(q 0, .inr (8, [.int (nI 0), .ref (q 2), .ref (q 3), .int (Z 0 3), .ref (q 5), .int (Z 0 5), .ref (q 7), .int (Z 0 7), .int (Z 0 8), .int (Z 0 9), .int (Z 0 10), .int (Z 0 11), .ref (q 13), .int (Z 0 13), .ref (q 15), .long g])), (q 2, .inl (T 0, 267, .inl (Z 2))), (q 3, .inl (T 0, 1602, .inl (Z 3))), (q 5, .inl (T 0, 267, .inl (Z 5))), (q 7, .inl (T 0, 60, .inl (Z 7))), (q 13, .inl (T 0, 8, .inl (Z 13))), (q 15, .inl (T 0, 3, .inl (Z 15)))] H := hP
  have hD : va_D A [(q 0, .inr (8, [.int (nI 0), .ref (q 2), .ref (q 3), .int (Z 0 3), .ref (q 5), .int (Z 0 5), .ref (q 7), .int (Z 0 7), .int (Z 0 8), .int (Z 0 9), .int (Z 0 10), .int (Z 0 11), .ref (q 13), .int (Z 0 13), .ref (q 15), .long g])), (q 2, .inl (T 0, 267, .inl (Z 2))), (q 3, .inl (T 0, 1602, .inl (Z 3))), (q 5, .inl (T 0, 267, .inl (Z 5))), (q 7, .inl (T 0, 60, .inl (Z 7))), (q 13, .inl (T 0, 8, .inl (Z 13))), (q 15, .inl (T 0, 3, .inl (Z 15)))] := hD
  refine lv_iload_n hx hb dX8_count_5 rfl (lv_at hl 1 rfl) ?_
  refine n_iconst hx hb 0 dX8_count_6 (by decide) ?_
  refine lv_bipush (v := nI 13) hx hb dX8_count_7 (by decide) ?_
  refine k_roS (As := [.int (nI w), .int (nI 0), .int (nI 13)]) (rest := []) (wc := []) (d := 0) (v := bI (pWi (nI w) (nI 0) (nI 13))) cx (c_X8_within l G T A (nI w) (nI 0) (nI 13) ) (va_cwS 3 hts gX8_count_X8_within rfl rfl rfl (by decide +kernel) ⟨Nat.le_of_ble_eq_true rfl, Nat.le_of_ble_eq_true rfl⟩) (hP.sub (ws' := []) [] rfl) hK (hE.kept hS.2.1) rfl hl.1 rfl (Nat.le_of_ble_eq_true rfl) dX8_count_9 ⟨Nat.le_of_ble_eq_true rfl, Nat.le_of_ble_eq_true rfl⟩ ?_
  refine b_if_eq (b := pWi (nI w) (nI 0) (nI 13)) (tgt := 23) hx hb dX8_count_12 (by decide) (fun c_1 => by exfalso; rw [pWi_n (by omega) (by omega) (by decide)] at c_1; cases c_1) (fun c_2 => ?_)
  refine lv_aload_n hx hb dX8_count_15 rfl (lv_at hl 0 rfl) ?_
  refine lv_iload_n hx hb dX8_count_16 rfl (lv_at hl 1 rfl) ?_
  refine k_roV (As := [.int (nI w)]) (rest := []) (wc := oX8 T q (sc Z 0 (nI 0)) g) (d := 4) (v := mTC (sc Z 0 (nI 0)) ln w) cx (c_X8_tellsCount l G T A q (sc Z 0 (nI 0)) g ln w (by first | assumption | rfl | omega) hln8 (by omega)) (cwV 1 hts gX8_count_X8_tellsCount rfl rfl rfl (by decide +kernel) ⟨Nat.le_of_ble_eq_true rfl, Nat.le_of_ble_eq_true rfl⟩) hP hK (hE.kept hS.2.1) (va_recv hK hP (ci := 8) (q0 := 0) rfl rfl) rfl hl.1 rfl (Nat.le_of_ble_eq_true rfl) dX8_count_17 ⟨Nat.le_of_ble_eq_true rfl, Nat.le_of_ble_eq_true rfl⟩ ?_
  refine lv_goto (tgt := 28) hx hb dX8_count_20 (by decide) ?_
  subst hQ
  have hP9 : va_P G vwCl (oX8 T q (sc Z 0 (nI 0)) g) H := hP
  have hD9 : va_D A (oX8 T q (sc Z 0 (nI 0)) g) := hD
  exact e_rwi hx hb hr hlocks hS (by first | rfl | simp [bI, c_2]) hP9 hD9 dX8_count_28
set_option maxHeartbeats 4000000 in
set_option maxRecDepth 100000 in
theorem c_X8_bestRoom (l : Launch) (G : va_G) (T : Nat → ClassId) (sz : Nat) (q : Nat → Nat) (Z : Nat → Nat → Int32) (g : Int64) (mm : Nat) (hm20 : mm < 20) : RWi l yX8_bestRoom wsX8_bestRoom 6 0 0 G T sz (oX8 T q Z g) [.ref (q 0), .int (nI mm)] (mFr (sc Z 0 (nI 0)) mm 6).1 (oX8 T q (sc Z 0 (nI 0)) g) := by
  refine Met.ofW (cc := cX8_bestRoom) (maxL := 2) (ret := (some .int)) (by decide) rfl ?_
  intro p e s m args below meth c s₁ B hml hv
  obtain ⟨ha, hsz, hP, hK, hD0, hE0⟩ := hv
  have hx := B.exec
  have hb := B.bytes
  have hr := B.returns
  have hlocks := B.notSynchronized
  have hts := atoms_spec (ws := wsX8_bestRoom) B.pre
  have hown : s.vm.findClass RX8 = some m.cls := findClass_of_methodNamed B.named
  have cx : CallFix p m c cX8_bestRoom 2 s args wsX8_bestRoom RX8 := ⟨hx, hb, hml, hown, hts⟩
  subst hsz
  have hD := hD0.self (sz := s.heap.size)
  generalize hAe : va_A (oX8 T q Z g) s.heap.size = A at hD hE0 ⊢
  have hE : gE A s s.heap := hE0
  have hA : ∀ q : Nat, s.heap.size ≤ q → A q := fun q h => by rw [← hAe]; exact Or.inr h
  have hS : va_S A s.heap s.heap [] := va_S.rf
  refine w_entry ha (Nat.le_of_ble_eq_true rfl) (fun ls hl => ?_)
  refine w_q (fun Q0 hQ => ?_)
  have lk28 := hts (.fieldLink RX8 28 "WhistleTunesModel" "thrown" "I") (by decide +kernel)
  have hinX8 : ∀ w ∈ wsX80, w ∈ wsX8_bestRoom := by decide +kernel
  have hl : lv_has ls 2 [(0, .ref (q 0)), (1, .int (nI mm))] := hl
  have hP : va_P G vwCl [(q 0, .inr (8, [.int (Z 0 0), .ref (q 2), .ref (q 3), .int (Z 0 3), .ref (q 5), .int (Z 0 5), .ref (q 7), .int (Z 0 7), .int (Z 0 8), .int (Z 0 9), .int (Z 0 10), .int (Z 0 11), .ref (q 13), .int (Z 0 13), .ref (q 15), .long g])), (q 2, .inl (T 0, 267, .inl (Z 2))), (q 3, .inl (T 0, 1602, .inl (Z 3))), (q 5, .inl (T 0, 267, .inl (Z 5))), (q 7, .inl (T 0, 60, .inl (Z 7))), (q 13, .inl (T 0, 8, .inl (Z 13))), (q 15, .inl (T 0, 3, .inl (Z 15)))] s.heap := hP
  have hD : va_D A [(q 0, .inr (8, [.int (Z 0 0), .ref (q 2), .ref (q 3), .int (Z 0 3), .ref (q 5), .int (Z 0 5), .ref (q 7), .int (Z 0 7), .int (Z 0 8), .int (Z 0 9), .int (Z 0 10), .int (Z 0 11), .ref (q 13), .int (Z 0 13), .ref (q 15), .long g])), (q 2, .inl (T 0, 267, .inl (Z 2))), (q 3, .inl (T 0, 1602, .inl (Z 3))), (q 5, .inl (T 0, 267, .inl (Z 5))), (q 7, .inl (T 0, 60, .inl (Z 7))), (q 13, .inl (T 0, 8, .inl (Z 13))), (q 15, .inl (T 0, 3, .inl (Z 15)))] := hD
  skip
  refine w_h (fun H locs hHe hLe => ?_)
  have hP : va_P G vwCl [(q 0, .inr (8, [.int (Z 0 0), .ref (q 2), .ref (q 3), .int (Z 0 3), .ref (q 5), .int (Z 0 5), .ref (q 7), .int (Z 0 7), .int (Z 0 8), .int (Z 0 9), .int (Z 0 10), .int (Z 0 11), .ref (q 13), .int (Z 0 13), .ref (q 15), .long g])), (q 2, .inl (T 0, 267, .inl (Z 2))), (q 3, .inl (T 0, 1602, .inl (Z 3))), (q 5, .inl (T 0, 267, .inl (Z 5))), (q 7, .inl (T 0, 60, .inl (Z 7))), (q 13, .inl (T 0, 8, .inl (Z 13))), (q 15, .inl (T 0, 3, .inl (Z 15)))] H := by rw [hHe]; exact hP
  have hS : va_S A s.heap H locs := by rw [hHe, hLe]; exact hS
  refine lv_aload_n hx hb dX8_bestRoom_0 rfl (lv_at hl 0 rfl) ?_
  refine n_iconst hx hb 0 dX8_bestRoom_1 (by decide) ?_
  refine va_put (D := G) (ci := 8) (v := .int (nI 0)) (ty := .int) (C := RX8) (T := TX8) (N := 16) hx hb hts hinX8 tyX8 tyX8_ok nmX8 hown hK hP hD hS 0 rfl rfl 0 (by decide) lk28 (fun _ h9 => h9) rfl (by decide +kernel) rfl rfl (Nat.le_of_ble_eq_true rfl) dX8_bestRoom_2 (fun H locs hP hD hS => ?_)
  have hP : va_P G vwCl [(q 0, .inr (8, [.int (nI 0), .ref (q 2), .ref (q 3), .int (Z 0 3), .ref (q 5), .int (Z 0 5), .ref (q 7), .int (Z 0 7), .int (Z 0 8), .int (Z 0 9), .int (Z 0 10), .int (Z 0 11), .ref (q 13), .int (Z 0 13), .ref (q 15), .long g])), (q 2, .inl (T 0, 267, .inl (Z 2))), (q 3, .inl (T 0, 1602, .inl (Z 3))), (q 5, .inl (T 0, 267, .inl (Z 5))), (q 7, .inl (T 0, 60, .inl (Z 7))), (q 13, .inl (T 0, 8, .inl (Z 13))), (q 15, .inl (T 0, 3, .inl (Z 15)))] H := hP
  have hD : va_D A [(q 0, .inr (8, [.int (nI 0), .ref (q 2), .ref (q 3), .int (Z 0 3), .ref (q 5), .int (Z 0 5), .ref (q 7), .int (Z 0 7), .int (Z 0 8), .int (Z 0 9), .int (Z 0 10), .int (Z 0 11), .ref (q 13), .int (Z 0 13), .ref (q 15), .long g])), (q 2, .inl (T 0, 267, .inl (Z 2))), (q 3, .inl (T 0, 1602, .inl (Z 3))), (q 5, .inl (T 0, 267, .inl (Z 5))), (q 7, .inl (T 0, 60, .inl (Z 7))), (q 13, .inl (T 0, 8, .inl (Z 13))), (q 15, .inl (T 0, 3, .inl (Z 15)))] := hD
  refine lv_iload_n hx hb dX8_bestRoom_5 rfl (lv_at hl 1 rfl) ?_
  refine k_roS (As := [.int (nI mm)]) (rest := []) (wc := []) (d := 1) (v := bI (pWi (nI mm) (nI 0) (nI 19))) cx (c_X8_isMessage l G T A (nI mm) ) (va_cwS 1 hts gX8_bestRoom_X8_isMessage rfl rfl rfl (by decide +kernel) ⟨Nat.le_of_ble_eq_true rfl, Nat.le_of_ble_eq_true rfl⟩) (hP.sub (ws' := []) [] rfl) hK (hE.kept hS.2.1) rfl hl.1 rfl (Nat.le_of_ble_eq_true rfl) dX8_bestRoom_6 ⟨Nat.le_of_ble_eq_true rfl, Nat.le_of_ble_eq_true rfl⟩ ?_
  refine b_if_eq (b := pWi (nI mm) (nI 0) (nI 19)) (tgt := 20) hx hb dX8_bestRoom_9 (by decide) (fun c_1 => by exfalso; rw [pWi_n (by omega) (by omega) (by decide)] at c_1; cases c_1) (fun c_2 => ?_)
  refine lv_aload_n hx hb dX8_bestRoom_12 rfl (lv_at hl 0 rfl) ?_
  refine lv_iload_n hx hb dX8_bestRoom_13 rfl (lv_at hl 1 rfl) ?_
  refine k_roV (As := [.int (nI mm)]) (rest := []) (wc := oX8 T q (sc Z 0 (nI 0)) g) (d := 4) (v := (mFr (sc Z 0 (nI 0)) mm 6).1) cx (c_X8_findRoom l G T A q (sc Z 0 (nI 0)) g mm (by omega)) (cwV 1 hts gX8_bestRoom_X8_findRoom rfl rfl rfl (by decide +kernel) ⟨Nat.le_of_ble_eq_true rfl, Nat.le_of_ble_eq_true rfl⟩) hP hK (hE.kept hS.2.1) (va_recv hK hP (ci := 8) (q0 := 0) rfl rfl) rfl hl.1 rfl (Nat.le_of_ble_eq_true rfl) dX8_bestRoom_14 ⟨Nat.le_of_ble_eq_true rfl, Nat.le_of_ble_eq_true rfl⟩ ?_
  refine lv_goto (tgt := 25) hx hb dX8_bestRoom_17 (by decide) ?_
  subst hQ
  have hP9 : va_P G vwCl (oX8 T q (sc Z 0 (nI 0)) g) H := hP
  have hD9 : va_D A (oX8 T q (sc Z 0 (nI 0)) g) := hD
  exact e_rwi hx hb hr hlocks hS (by first | rfl | simp [bI, c_2]) hP9 hD9 dX8_bestRoom_25
set_option maxHeartbeats 4000000 in
set_option maxRecDepth 100000 in
theorem c_X8_whyNot (l : Launch) (G : va_G) (T : Nat → ClassId) (sz : Nat) (q : Nat → Nat) (Z : Nat → Nat → Int32) (g : Int64) (r : Nat) (mm : Nat) (hr6 : r < 6) (hm20 : mm < 20) : RWi l yX8_whyNot wsX8_whyNot 6 0 0 G T sz (oX8 T q Z g) [.ref (q 0), .int (nI r), .int (nI mm)] (mWy (sc Z 0 (nI 0)) r mm) (oX8 T q (sc Z 0 (nI 0)) g) := by
  refine Met.ofW (cc := cX8_whyNot) (maxL := 3) (ret := (some .int)) (by decide) rfl ?_
  intro p e s m args below meth c s₁ B hml hv
  obtain ⟨ha, hsz, hP, hK, hD0, hE0⟩ := hv
  have hx := B.exec
  have hb := B.bytes
  have hr := B.returns
  have hlocks := B.notSynchronized
  have hts := atoms_spec (ws := wsX8_whyNot) B.pre
  have hown : s.vm.findClass RX8 = some m.cls := findClass_of_methodNamed B.named
  have cx : CallFix p m c cX8_whyNot 3 s args wsX8_whyNot RX8 := ⟨hx, hb, hml, hown, hts⟩
  subst hsz
  have hD := hD0.self (sz := s.heap.size)
  generalize hAe : va_A (oX8 T q Z g) s.heap.size = A at hD hE0 ⊢
  have hE : gE A s s.heap := hE0
  have hA : ∀ q : Nat, s.heap.size ≤ q → A q := fun q h => by rw [← hAe]; exact Or.inr h
  have hS : va_S A s.heap s.heap [] := va_S.rf
  refine w_entry ha (Nat.le_of_ble_eq_true rfl) (fun ls hl => ?_)
  refine w_q (fun Q0 hQ => ?_)
  have lk28 := hts (.fieldLink RX8 28 "WhistleTunesModel" "thrown" "I") (by decide +kernel)
  have hinX8 : ∀ w ∈ wsX80, w ∈ wsX8_whyNot := by decide +kernel
  have hl : lv_has ls 3 [(0, .ref (q 0)), (1, .int (nI r)), (2, .int (nI mm))] := hl
  have hP : va_P G vwCl [(q 0, .inr (8, [.int (Z 0 0), .ref (q 2), .ref (q 3), .int (Z 0 3), .ref (q 5), .int (Z 0 5), .ref (q 7), .int (Z 0 7), .int (Z 0 8), .int (Z 0 9), .int (Z 0 10), .int (Z 0 11), .ref (q 13), .int (Z 0 13), .ref (q 15), .long g])), (q 2, .inl (T 0, 267, .inl (Z 2))), (q 3, .inl (T 0, 1602, .inl (Z 3))), (q 5, .inl (T 0, 267, .inl (Z 5))), (q 7, .inl (T 0, 60, .inl (Z 7))), (q 13, .inl (T 0, 8, .inl (Z 13))), (q 15, .inl (T 0, 3, .inl (Z 15)))] s.heap := hP
  have hD : va_D A [(q 0, .inr (8, [.int (Z 0 0), .ref (q 2), .ref (q 3), .int (Z 0 3), .ref (q 5), .int (Z 0 5), .ref (q 7), .int (Z 0 7), .int (Z 0 8), .int (Z 0 9), .int (Z 0 10), .int (Z 0 11), .ref (q 13), .int (Z 0 13), .ref (q 15), .long g])), (q 2, .inl (T 0, 267, .inl (Z 2))), (q 3, .inl (T 0, 1602, .inl (Z 3))), (q 5, .inl (T 0, 267, .inl (Z 5))), (q 7, .inl (T 0, 60, .inl (Z 7))), (q 13, .inl (T 0, 8, .inl (Z 13))), (q 15, .inl (T 0, 3, .inl (Z 15)))] := hD
  skip
  refine w_h (fun H locs hHe hLe => ?_)
  have hP : va_P G vwCl [(q 0, .inr (8, [.int (Z 0 0), .ref (q 2), .ref (q 3), .int (Z 0 3), .ref (q 5), .int (Z 0 5), .ref (q 7), .int (Z 0 7), .int (Z 0 8), .int (Z 0 9), .int (Z 0 10), .int (Z 0 11), .ref (q 13), .int (Z 0 13), .ref (q 15), .long g])), (q 2, .inl (T 0, 267, .inl (Z 2))), (q 3, .inl (T 0, 1602, .inl (Z 3))), (q 5, .inl (T 0, 267, .inl (Z 5))), (q 7, .inl (T 0, 60, .inl (Z 7))), (q 13, .inl (T 0, 8, .inl (Z 13))), (q 15, .inl (T 0, 3, .inl (Z 15)))] H := by rw [hHe]; exact hP
  have hS : va_S A s.heap H locs := by rw [hHe, hLe]; exact hS
  refine lv_aload_n hx hb dX8_whyNot_0 rfl (lv_at hl 0 rfl) ?_
  refine n_iconst hx hb 0 dX8_whyNot_1 (by decide) ?_
  refine va_put (D := G) (ci := 8) (v := .int (nI 0)) (ty := .int) (C := RX8) (T := TX8) (N := 16) hx hb hts hinX8 tyX8 tyX8_ok nmX8 hown hK hP hD hS 0 rfl rfl 0 (by decide) lk28 (fun _ h9 => h9) rfl (by decide +kernel) rfl rfl (Nat.le_of_ble_eq_true rfl) dX8_whyNot_2 (fun H locs hP hD hS => ?_)
  have hP : va_P G vwCl [(q 0, .inr (8, [.int (nI 0), .ref (q 2), .ref (q 3), .int (Z 0 3), .ref (q 5), .int (Z 0 5), .ref (q 7), .int (Z 0 7), .int (Z 0 8), .int (Z 0 9), .int (Z 0 10), .int (Z 0 11), .ref (q 13), .int (Z 0 13), .ref (q 15), .long g])), (q 2, .inl (T 0, 267, .inl (Z 2))), (q 3, .inl (T 0, 1602, .inl (Z 3))), (q 5, .inl (T 0, 267, .inl (Z 5))), (q 7, .inl (T 0, 60, .inl (Z 7))), (q 13, .inl (T 0, 8, .inl (Z 13))), (q 15, .inl (T 0, 3, .inl (Z 15)))] H := hP
  have hD : va_D A [(q 0, .inr (8, [.int (nI 0), .ref (q 2), .ref (q 3), .int (Z 0 3), .ref (q 5), .int (Z 0 5), .ref (q 7), .int (Z 0 7), .int (Z 0 8), .int (Z 0 9), .int (Z 0 10), .int (Z 0 11), .ref (q 13), .int (Z 0 13), .ref (q 15), .long g])), (q 2, .inl (T 0, 267, .inl (Z 2))), (q 3, .inl (T 0, 1602, .inl (Z 3))), (q 5, .inl (T 0, 267, .inl (Z 5))), (q 7, .inl (T 0, 60, .inl (Z 7))), (q 13, .inl (T 0, 8, .inl (Z 13))), (q 15, .inl (T 0, 3, .inl (Z 15)))] := hD
  refine lv_iload_n hx hb dX8_whyNot_5 rfl (lv_at hl 1 rfl) ?_
  refine k_roS (As := [.int (nI r)]) (rest := []) (wc := []) (d := 1) (v := bI (pWi (nI r) (nI 0) (nI 5))) cx (c_X8_isRoom l G T A (nI r) ) (va_cwS 1 hts gX8_whyNot_X8_isRoom rfl rfl rfl (by decide +kernel) ⟨Nat.le_of_ble_eq_true rfl, Nat.le_of_ble_eq_true rfl⟩) (hP.sub (ws' := []) [] rfl) hK (hE.kept hS.2.1) rfl hl.1 rfl (Nat.le_of_ble_eq_true rfl) dX8_whyNot_6 ⟨Nat.le_of_ble_eq_true rfl, Nat.le_of_ble_eq_true rfl⟩ ?_
  refine b_if_eq (b := pWi (nI r) (nI 0) (nI 5)) (tgt := 28) hx hb dX8_whyNot_9 (by decide) (fun c_1 => by exfalso; rw [pWi_n (by omega) (by omega) (by decide)] at c_1; cases c_1) (fun c_2 => ?_)
  refine lv_iload_n hx hb dX8_whyNot_12 rfl (lv_at hl 2 rfl) ?_
  refine k_roS (As := [.int (nI mm)]) (rest := []) (wc := []) (d := 1) (v := bI (pWi (nI mm) (nI 0) (nI 19))) cx (c_X8_isMessage l G T A (nI mm) ) (va_cwS 1 hts gX8_whyNot_X8_isMessage rfl rfl rfl (by decide +kernel) ⟨Nat.le_of_ble_eq_true rfl, Nat.le_of_ble_eq_true rfl⟩) (hP.sub (ws' := []) [] rfl) hK (hE.kept hS.2.1) rfl hl.1 rfl (Nat.le_of_ble_eq_true rfl) dX8_whyNot_13 ⟨Nat.le_of_ble_eq_true rfl, Nat.le_of_ble_eq_true rfl⟩ ?_
  refine b_if_eq (b := pWi (nI mm) (nI 0) (nI 19)) (tgt := 28) hx hb dX8_whyNot_16 (by decide) (fun c_3 => by exfalso; rw [pWi_n (by omega) (by omega) (by decide)] at c_3; cases c_3) (fun c_4 => ?_)
  refine lv_aload_n hx hb dX8_whyNot_19 rfl (lv_at hl 0 rfl) ?_
  refine lv_iload_n hx hb dX8_whyNot_20 rfl (lv_at hl 1 rfl) ?_
  refine lv_iload_n hx hb dX8_whyNot_21 rfl (lv_at hl 2 rfl) ?_
  refine k_roV (As := [.int (nI r), .int (nI mm)]) (rest := []) (wc := oX8 T q (sc Z 0 (nI 0)) g) (d := 2) (v := mWy (sc Z 0 (nI 0)) r mm) cx (c_X8_whyNotWhistled l G T A q (sc Z 0 (nI 0)) g r mm (by omega) (by omega)) (cwV 2 hts gX8_whyNot_X8_whyNotWhistled rfl rfl rfl (by decide +kernel) ⟨Nat.le_of_ble_eq_true rfl, Nat.le_of_ble_eq_true rfl⟩) hP hK (hE.kept hS.2.1) (va_recv hK hP (ci := 8) (q0 := 0) rfl rfl) rfl hl.1 rfl (Nat.le_of_ble_eq_true rfl) dX8_whyNot_22 ⟨Nat.le_of_ble_eq_true rfl, Nat.le_of_ble_eq_true rfl⟩ ?_
  refine lv_goto (tgt := 33) hx hb dX8_whyNot_25 (by decide) ?_
  subst hQ
  have hP9 : va_P G vwCl (oX8 T q (sc Z 0 (nI 0)) g) H := hP
  have hD9 : va_D A (oX8 T q (sc Z 0 (nI 0)) g) := hD
  exact e_rwi hx hb hr hlocks hS (by first | rfl | simp [bI, c_2, c_4]) hP9 hD9 dX8_whyNot_33
set_option maxHeartbeats 4000000 in
set_option maxRecDepth 100000 in
theorem c_X8_ifWhistled (l : Launch) (G : va_G) (T : Nat → ClassId) (sz : Nat) (q : Nat → Nat) (Z : Nat → Nat → Int32) (g : Int64) (r : Nat) (mm : Nat) (w : Nat) (hr6 : r < 6) (hm20 : mm < 20) (hw : w ≤ 3) : RWi l yX8_ifWhistled wsX8_ifWhistled 6 0 0 G T sz (oX8 T q Z g) [.ref (q 0), .int (nI r), .int (nI mm), .int (nI w)] (mWB (sc Z 0 (nI 0)) r mm w) (oX8 T q (sc Z 0 (nI 0)) g) := by
  refine Met.ofW (cc := cX8_ifWhistled) (maxL := 4) (ret := (some .int)) (by decide) rfl ?_
  intro p e s m args below meth c s₁ B hml hv
  obtain ⟨ha, hsz, hP, hK, hD0, hE0⟩ := hv
  have hx := B.exec
  have hb := B.bytes
  have hr := B.returns
  have hlocks := B.notSynchronized
  have hts := atoms_spec (ws := wsX8_ifWhistled) B.pre
  have hown : s.vm.findClass RX8 = some m.cls := findClass_of_methodNamed B.named
  have cx : CallFix p m c cX8_ifWhistled 4 s args wsX8_ifWhistled RX8 := ⟨hx, hb, hml, hown, hts⟩
  subst hsz
  have hD := hD0.self (sz := s.heap.size)
  generalize hAe : va_A (oX8 T q Z g) s.heap.size = A at hD hE0 ⊢
  have hE : gE A s s.heap := hE0
  have hA : ∀ q : Nat, s.heap.size ≤ q → A q := fun q h => by rw [← hAe]; exact Or.inr h
  have hS : va_S A s.heap s.heap [] := va_S.rf
  refine w_entry ha (Nat.le_of_ble_eq_true rfl) (fun ls hl => ?_)
  refine w_q (fun Q0 hQ => ?_)
  have lk28 := hts (.fieldLink RX8 28 "WhistleTunesModel" "thrown" "I") (by decide +kernel)
  have hinX8 : ∀ w ∈ wsX80, w ∈ wsX8_ifWhistled := by decide +kernel
  have hl : lv_has ls 4 [(0, .ref (q 0)), (1, .int (nI r)), (2, .int (nI mm)), (3, .int (nI w))] := hl
  have hP : va_P G vwCl [(q 0, .inr (8, [.int (Z 0 0), .ref (q 2), .ref (q 3), .int (Z 0 3), .ref (q 5), .int (Z 0 5), .ref (q 7), .int (Z 0 7), .int (Z 0 8), .int (Z 0 9), .int (Z 0 10), .int (Z 0 11), .ref (q 13), .int (Z 0 13), .ref (q 15), .long g])), (q 2, .inl (T 0, 267, .inl (Z 2))), (q 3, .inl (T 0, 1602, .inl (Z 3))), (q 5, .inl (T 0, 267, .inl (Z 5))), (q 7, .inl (T 0, 60, .inl (Z 7))), (q 13, .inl (T 0, 8, .inl (Z 13))), (q 15, .inl (T 0, 3, .inl (Z 15)))] s.heap := hP
  have hD : va_D A [(q 0, .inr (8, [.int (Z 0 0), .ref (q 2), .ref (q 3), .int (Z 0 3), .ref (q 5), .int (Z 0 5), .ref (q 7), .int (Z 0 7), .int (Z 0 8), .int (Z 0 9), .int (Z 0 10), .int (Z 0 11), .ref (q 13), .int (Z 0 13), .ref (q 15), .long g])), (q 2, .inl (T 0, 267, .inl (Z 2))), (q 3, .inl (T 0, 1602, .inl (Z 3))), (q 5, .inl (T 0, 267, .inl (Z 5))), (q 7, .inl (T 0, 60, .inl (Z 7))), (q 13, .inl (T 0, 8, .inl (Z 13))), (q 15, .inl (T 0, 3, .inl (Z 15)))] := hD
  skip
  refine w_h (fun H locs hHe hLe => ?_)
  have hP : va_P G vwCl [(q 0, .inr (8, [.int (Z 0 0), .ref (q 2), .ref (q 3), .int (Z 0 3), .ref (q 5), .int (Z 0 5), .ref (q 7), .int (Z 0 7), .int (Z 0 8), .int (Z 0 9), .int (Z 0 10), .int (Z 0 11), .ref (q 13), .int (Z 0 13), .ref (q 15), .long g])), (q 2, .inl (T 0, 267, .inl (Z 2))), (q 3, .inl (T 0, 1602, .inl (Z 3))), (q 5, .inl (T 0, 267, .inl (Z 5))), (q 7, .inl (T 0, 60, .inl (Z 7))), (q 13, .inl (T 0, 8, .inl (Z 13))), (q 15, .inl (T 0, 3, .inl (Z 15)))] H := by rw [hHe]; exact hP
  have hS : va_S A s.heap H locs := by rw [hHe, hLe]; exact hS
  refine lv_aload_n hx hb dX8_ifWhistled_0 rfl (lv_at hl 0 rfl) ?_
  refine n_iconst hx hb 0 dX8_ifWhistled_1 (by decide) ?_
  refine va_put (D := G) (ci := 8) (v := .int (nI 0)) (ty := .int) (C := RX8) (T := TX8) (N := 16) hx hb hts hinX8 tyX8 tyX8_ok nmX8 hown hK hP hD hS 0 rfl rfl 0 (by decide) lk28 (fun _ h9 => h9) rfl (by decide +kernel) rfl rfl (Nat.le_of_ble_eq_true rfl) dX8_ifWhistled_2 (fun H locs hP hD hS => ?_)
  have hP : va_P G vwCl [(q 0, .inr (8, [.int (nI 0), .ref (q 2), .ref (q 3), .int (Z 0 3), .ref (q 5), .int (Z 0 5), .ref (q 7), .int (Z 0 7), .int (Z 0 8), .int (Z 0 9), .int (Z 0 10), .int (Z 0 11), .ref (q 13), .int (Z 0 13), .ref (q 15), .long g])), (q 2, .inl (T 0, 267, .inl (Z 2))), (q 3, .inl (T 0, 1602, .inl (Z 3))), (q 5, .inl (T 0, 267, .inl (Z 5))), (q 7, .inl (T 0, 60, .inl (Z 7))), (q 13, .inl (T 0, 8, .inl (Z 13))), (q 15, .inl (T 0, 3, .inl (Z 15)))] H := hP
  have hD : va_D A [(q 0, .inr (8, [.int (nI 0), .ref (q 2), .ref (q 3), .int (Z 0 3), .ref (q 5), .int (Z 0 5), .ref (q 7), .int (Z 0 7), .int (Z 0 8), .int (Z 0 9), .int (Z 0 10), .int (Z 0 11), .ref (q 13), .int (Z 0 13), .ref (q 15), .long g])), (q 2, .inl (T 0, 267, .inl (Z 2))), (q 3, .inl (T 0, 1602, .inl (Z 3))), (q 5, .inl (T 0, 267, .inl (Z 5))), (q 7, .inl (T 0, 60, .inl (Z 7))), (q 13, .inl (T 0, 8, .inl (Z 13))), (q 15, .inl (T 0, 3, .inl (Z 15)))] := hD
  refine lv_iload_n hx hb dX8_ifWhistled_5 rfl (lv_at hl 1 rfl) ?_
  refine k_roS (As := [.int (nI r)]) (rest := []) (wc := []) (d := 1) (v := bI (pWi (nI r) (nI 0) (nI 5))) cx (c_X8_isRoom l G T A (nI r) ) (va_cwS 1 hts gX8_ifWhistled_X8_isRoom rfl rfl rfl (by decide +kernel) ⟨Nat.le_of_ble_eq_true rfl, Nat.le_of_ble_eq_true rfl⟩) (hP.sub (ws' := []) [] rfl) hK (hE.kept hS.2.1) rfl hl.1 rfl (Nat.le_of_ble_eq_true rfl) dX8_ifWhistled_6 ⟨Nat.le_of_ble_eq_true rfl, Nat.le_of_ble_eq_true rfl⟩ ?_
  refine b_if_eq (b := pWi (nI r) (nI 0) (nI 5)) (tgt := 19) hx hb dX8_ifWhistled_9 (by decide) (fun c_1 => by exfalso; rw [pWi_n (by omega) (by omega) (by decide)] at c_1; cases c_1) (fun c_2 => ?_)
  refine lv_iload_n hx hb dX8_ifWhistled_12 rfl (lv_at hl 2 rfl) ?_
  refine k_roS (As := [.int (nI mm)]) (rest := []) (wc := []) (d := 1) (v := bI (pWi (nI mm) (nI 0) (nI 19))) cx (c_X8_isMessage l G T A (nI mm) ) (va_cwS 1 hts gX8_ifWhistled_X8_isMessage rfl rfl rfl (by decide +kernel) ⟨Nat.le_of_ble_eq_true rfl, Nat.le_of_ble_eq_true rfl⟩) (hP.sub (ws' := []) [] rfl) hK (hE.kept hS.2.1) rfl hl.1 rfl (Nat.le_of_ble_eq_true rfl) dX8_ifWhistled_13 ⟨Nat.le_of_ble_eq_true rfl, Nat.le_of_ble_eq_true rfl⟩ ?_
  refine b_if_ne (b := pWi (nI mm) (nI 0) (nI 19)) (tgt := 25) hx hb dX8_ifWhistled_16 (by decide) (fun c_3 => ?_) (fun c_4 => by exfalso; rw [pWi_n (by omega) (by omega) (by decide)] at c_4; cases c_4)
  refine lv_iload_n hx hb dX8_ifWhistled_25 rfl (lv_at hl 3 rfl) ?_
  refine n_iconst hx hb 0 dX8_ifWhistled_26 (by decide) ?_
  refine n_iconst hx hb 3 dX8_ifWhistled_27 (by decide) ?_
  refine k_roS (As := [.int (nI w), .int (nI 0), .int (nI 3)]) (rest := []) (wc := []) (d := 0) (v := bI (pWi (nI w) (nI 0) (nI 3))) cx (c_X8_within l G T A (nI w) (nI 0) (nI 3) ) (va_cwS 3 hts gX8_ifWhistled_X8_within rfl rfl rfl (by decide +kernel) ⟨Nat.le_of_ble_eq_true rfl, Nat.le_of_ble_eq_true rfl⟩) (hP.sub (ws' := []) [] rfl) hK (hE.kept hS.2.1) rfl hl.1 rfl (Nat.le_of_ble_eq_true rfl) dX8_ifWhistled_28 ⟨Nat.le_of_ble_eq_true rfl, Nat.le_of_ble_eq_true rfl⟩ ?_
  refine b_if_eq (b := pWi (nI w) (nI 0) (nI 3)) (tgt := 44) hx hb dX8_ifWhistled_31 (by decide) (fun c_5 => by exfalso; rw [pWi_n (by omega) (by omega) (by decide)] at c_5; cases c_5) (fun c_6 => ?_)
  refine lv_aload_n hx hb dX8_ifWhistled_34 rfl (lv_at hl 0 rfl) ?_
  refine lv_iload_n hx hb dX8_ifWhistled_35 rfl (lv_at hl 1 rfl) ?_
  refine lv_iload_n hx hb dX8_ifWhistled_36 rfl (lv_at hl 2 rfl) ?_
  refine lv_iload_n hx hb dX8_ifWhistled_37 rfl (lv_at hl 3 rfl) ?_
  refine k_roV (As := [.int (nI r), .int (nI mm), .int (nI w)]) (rest := []) (wc := oX8 T q (sc Z 0 (nI 0)) g) (d := 5) (v := mWB (sc Z 0 (nI 0)) r mm w) cx (c_X8_wouldBring l G T A q (sc Z 0 (nI 0)) g r mm w (by omega) (by omega) (by omega)) (cwV 3 hts gX8_ifWhistled_X8_wouldBring rfl rfl rfl (by decide +kernel) ⟨Nat.le_of_ble_eq_true rfl, Nat.le_of_ble_eq_true rfl⟩) hP hK (hE.kept hS.2.1) (va_recv hK hP (ci := 8) (q0 := 0) rfl rfl) rfl hl.1 rfl (Nat.le_of_ble_eq_true rfl) dX8_ifWhistled_38 ⟨Nat.le_of_ble_eq_true rfl, Nat.le_of_ble_eq_true rfl⟩ ?_
  refine lv_goto (tgt := 49) hx hb dX8_ifWhistled_41 (by decide) ?_
  subst hQ
  have hP9 : va_P G vwCl (oX8 T q (sc Z 0 (nI 0)) g) H := hP
  have hD9 : va_D A (oX8 T q (sc Z 0 (nI 0)) g) := hD
  exact e_rwi hx hb hr hlocks hS (by first | rfl | simp [bI, c_2, c_3, c_6]) hP9 hD9 dX8_ifWhistled_49
set_option maxHeartbeats 4000000 in
set_option maxRecDepth 100000 in
theorem c_X8_keyOf_1 (l : Launch) (G : va_G) (T : Nat → ClassId) (sz : Nat) (q : Nat → Nat) (Z : Nat → Nat → Int32) (g : Int64) (L : Nat) (cd : Nat → Nat) (hle : Z 0 7 = nI L) (hcd : ∀ i : Nat, i < L → Z 7 i = nI (cd i)) (hc127 : ∀ i : Nat, i < L → cd i < 127) (hL60 : L ≤ 60) (hno : tuB cd L Z = false) : RWi l yX8_keyOf wsX8_keyOf 6 0 0 G T sz (oX8 T q Z g) [.ref (q 0)] (nI 0) (oX8 T q (sa (sa (sc (sc (sc Z 0 (nI 1)) 8 (nI (rtE cd L 0 (Z 13) (Z 15)).1.1)) 13 (nI (rtE cd L 0 (Z 13) (Z 15)).1.2.1)) 13 (rtE cd L 0 (Z 13) (Z 15)).1.2.2) 15 (rtE cd L 0 (Z 13) (Z 15)).2.1.2) g) := by
  refine Met.ofW (cc := cX8_keyOf) (maxL := 1) (ret := (some .int)) (by decide) rfl ?_
  intro p e s m args below meth c s₁ B hml hv
  obtain ⟨ha, hsz, hP, hK, hD0, hE0⟩ := hv
  have hx := B.exec
  have hb := B.bytes
  have hr := B.returns
  have hlocks := B.notSynchronized
  have hts := atoms_spec (ws := wsX8_keyOf) B.pre
  have hown : s.vm.findClass RX8 = some m.cls := findClass_of_methodNamed B.named
  have cx : CallFix p m c cX8_keyOf 1 s args wsX8_keyOf RX8 := ⟨hx, hb, hml, hown, hts⟩
  subst hsz
  have hD := hD0.self (sz := s.heap.size)
  generalize hAe : va_A (oX8 T q Z g) s.heap.size = A at hD hE0 ⊢
  have hE : gE A s s.heap := hE0
  have hA : ∀ q : Nat, s.heap.size ≤ q → A q := fun q h => by rw [← hAe]; exact Or.inr h
  have hS : va_S A s.heap s.heap [] := va_S.rf
  refine w_entry ha (Nat.le_of_ble_eq_true rfl) (fun ls hl => ?_)
  refine w_q (fun Q0 hQ => ?_)
  have lk28 := hts (.fieldLink RX8 28 "WhistleTunesModel" "thrown" "I") (by decide +kernel)
  have hinX8 : ∀ w ∈ wsX80, w ∈ wsX8_keyOf := by decide +kernel
  have hl : lv_has ls 1 [(0, .ref (q 0))] := hl
  have hP : va_P G vwCl [(q 0, .inr (8, [.int (Z 0 0), .ref (q 2), .ref (q 3), .int (Z 0 3), .ref (q 5), .int (Z 0 5), .ref (q 7), .int (Z 0 7), .int (Z 0 8), .int (Z 0 9), .int (Z 0 10), .int (Z 0 11), .ref (q 13), .int (Z 0 13), .ref (q 15), .long g])), (q 2, .inl (T 0, 267, .inl (Z 2))), (q 3, .inl (T 0, 1602, .inl (Z 3))), (q 5, .inl (T 0, 267, .inl (Z 5))), (q 7, .inl (T 0, 60, .inl (Z 7))), (q 13, .inl (T 0, 8, .inl (Z 13))), (q 15, .inl (T 0, 3, .inl (Z 15)))] s.heap := hP
  have hD : va_D A [(q 0, .inr (8, [.int (Z 0 0), .ref (q 2), .ref (q 3), .int (Z 0 3), .ref (q 5), .int (Z 0 5), .ref (q 7), .int (Z 0 7), .int (Z 0 8), .int (Z 0 9), .int (Z 0 10), .int (Z 0 11), .ref (q 13), .int (Z 0 13), .ref (q 15), .long g])), (q 2, .inl (T 0, 267, .inl (Z 2))), (q 3, .inl (T 0, 1602, .inl (Z 3))), (q 5, .inl (T 0, 267, .inl (Z 5))), (q 7, .inl (T 0, 60, .inl (Z 7))), (q 13, .inl (T 0, 8, .inl (Z 13))), (q 15, .inl (T 0, 3, .inl (Z 15)))] := hD
  skip
  refine w_h (fun H locs hHe hLe => ?_)
  have hP : va_P G vwCl [(q 0, .inr (8, [.int (Z 0 0), .ref (q 2), .ref (q 3), .int (Z 0 3), .ref (q 5), .int (Z 0 5), .ref (q 7), .int (Z 0 7), .int (Z 0 8), .int (Z 0 9), .int (Z 0 10), .int (Z 0 11), .ref (q 13), .int (Z 0 13), .ref (q 15), .long g])), (q 2, .inl (T 0, 267, .inl (Z 2))), (q 3, .inl (T 0, 1602, .inl (Z 3))), (q 5, .inl (T 0, 267, .inl (Z 5))), (q 7, .inl (T 0, 60, .inl (Z 7))), (q 13, .inl (T 0, 8, .inl (Z 13))), (q 15, .inl (T 0, 3, .inl (Z 15)))] H := by rw [hHe]; exact hP
  have hS : va_S A s.heap H locs := by rw [hHe, hLe]; exact hS
  refine lv_aload_n hx hb dX8_keyOf_0 rfl (lv_at hl 0 rfl) ?_
  refine n_iconst hx hb 0 dX8_keyOf_1 (by decide) ?_
  refine va_put (D := G) (ci := 8) (v := .int (nI 0)) (ty := .int) (C := RX8) (T := TX8) (N := 16) hx hb hts hinX8 tyX8 tyX8_ok nmX8 hown hK hP hD hS 0 rfl rfl 0 (by decide) lk28 (fun _ h9 => h9) rfl (by decide +kernel) rfl rfl (Nat.le_of_ble_eq_true rfl) dX8_keyOf_2 (fun H locs hP hD hS => ?_)
  have hP : va_P G vwCl [(q 0, .inr (8, [.int (nI 0), .ref (q 2), .ref (q 3), .int (Z 0 3), .ref (q 5), .int (Z 0 5), .ref (q 7), .int (Z 0 7), .int (Z 0 8), .int (Z 0 9), .int (Z 0 10), .int (Z 0 11), .ref (q 13), .int (Z 0 13), .ref (q 15), .long g])), (q 2, .inl (T 0, 267, .inl (Z 2))), (q 3, .inl (T 0, 1602, .inl (Z 3))), (q 5, .inl (T 0, 267, .inl (Z 5))), (q 7, .inl (T 0, 60, .inl (Z 7))), (q 13, .inl (T 0, 8, .inl (Z 13))), (q 15, .inl (T 0, 3, .inl (Z 15)))] H := hP
  have hD : va_D A [(q 0, .inr (8, [.int (nI 0), .ref (q 2), .ref (q 3), .int (Z 0 3), .ref (q 5), .int (Z 0 5), .ref (q 7), .int (Z 0 7), .int (Z 0 8), .int (Z 0 9), .int (Z 0 10), .int (Z 0 11), .ref (q 13), .int (Z 0 13), .ref (q 15), .long g])), (q 2, .inl (T 0, 267, .inl (Z 2))), (q 3, .inl (T 0, 1602, .inl (Z 3))), (q 5, .inl (T 0, 267, .inl (Z 5))), (q 7, .inl (T 0, 60, .inl (Z 7))), (q 13, .inl (T 0, 8, .inl (Z 13))), (q 15, .inl (T 0, 3, .inl (Z 15)))] := hD
  refine lv_aload_n hx hb dX8_keyOf_5 rfl (lv_at hl 0 rfl) ?_
  refine k_rwV (As := []) (rest := []) (wc := oX8 T q (sc Z 0 (nI 0)) g) (wr := []) (w1 := oX8 T q (sa (sa (sc (sc (sc Z 0 (nI 0)) 8 (nI (rtE cd L 0 ((sc Z 0 (nI 0)) 13) ((sc Z 0 (nI 0)) 15)).1.1)) 13 (nI (rtE cd L 0 ((sc Z 0 (nI 0)) 13) ((sc Z 0 (nI 0)) 15)).1.2.1)) 13 (rtE cd L 0 ((sc Z 0 (nI 0)) 13) ((sc Z 0 (nI 0)) 15)).1.2.2) 15 (rtE cd L 0 ((sc Z 0 (nI 0)) 13) ((sc Z 0 (nI 0)) 15)).2.1.2) g) (d := 3) (mc := 0) (ms := 0) (v := bI (rtB (rtE cd L 0 ((Z 13)) ((Z 15))) && decide ((rtE cd L 0 ((Z 13)) ((Z 15))).1.1 = L))) (isC := [0, 1, 2, 3, 4, 5, 6]) (isR := []) cx (c_X8_isTuneText l G T H.size q (sc Z 0 (nI 0)) g L cd (by first | assumption | rfl | omega) (by first | assumption | rfl | omega) (by omega) (by omega)) (cwV 0 hts gX8_keyOf_X8_isTuneText rfl rfl rfl (by decide +kernel) ⟨Nat.le_of_ble_eq_true rfl, Nat.le_of_ble_eq_true rfl⟩) ⟨hP, hD, hS, hA, hE, hK, rfl, rfl, rfl, rfl, by decide⟩ (va_recv hK hP (ci := 8) (q0 := 0) rfl rfl) rfl hl.1 rfl (Nat.le_of_ble_eq_true rfl) dX8_keyOf_6 ⟨Nat.le_of_ble_eq_true rfl, Nat.le_of_ble_eq_true rfl⟩ (fun H locs hP hD hS hz => ?_)
  have hP : va_P G vwCl [(q 0, .inr (8, [.int (nI 0), .ref (q 2), .ref (q 3), .int (Z 0 3), .ref (q 5), .int (Z 0 5), .ref (q 7), .int (Z 0 7), .int (nI (rtE cd L 0 ((Z 13)) ((Z 15))).1.1), .int (Z 0 9), .int (Z 0 10), .int (Z 0 11), .ref (q 13), .int (nI (rtE cd L 0 ((Z 13)) ((Z 15))).1.2.1), .ref (q 15), .long g])), (q 2, .inl (T 0, 267, .inl (Z 2))), (q 3, .inl (T 0, 1602, .inl (Z 3))), (q 5, .inl (T 0, 267, .inl (Z 5))), (q 7, .inl (T 0, 60, .inl (Z 7))), (q 13, .inl (T 0, 8, .inl (rtE cd L 0 ((Z 13)) ((Z 15))).1.2.2)), (q 15, .inl (T 0, 3, .inl (rtE cd L 0 ((Z 13)) ((Z 15))).2.1.2))] H := hP
  have hD : va_D A [(q 0, .inr (8, [.int (nI 0), .ref (q 2), .ref (q 3), .int (Z 0 3), .ref (q 5), .int (Z 0 5), .ref (q 7), .int (Z 0 7), .int (nI (rtE cd L 0 ((Z 13)) ((Z 15))).1.1), .int (Z 0 9), .int (Z 0 10), .int (Z 0 11), .ref (q 13), .int (nI (rtE cd L 0 ((Z 13)) ((Z 15))).1.2.1), .ref (q 15), .long g])), (q 2, .inl (T 0, 267, .inl (Z 2))), (q 3, .inl (T 0, 1602, .inl (Z 3))), (q 5, .inl (T 0, 267, .inl (Z 5))), (q 7, .inl (T 0, 60, .inl (Z 7))), (q 13, .inl (T 0, 8, .inl (rtE cd L 0 ((Z 13)) ((Z 15))).1.2.2)), (q 15, .inl (T 0, 3, .inl (rtE cd L 0 ((Z 13)) ((Z 15))).2.1.2))] := hD
  refine b_if_eq (b := rtB (rtE cd L 0 ((Z 13)) ((Z 15))) && decide ((rtE cd L 0 ((Z 13)) ((Z 15))).1.1 = L)) (tgt := 19) hx hb dX8_keyOf_9 (by decide) (fun c_1 => ?_) (fun c_2 => by exfalso; exact absurd hno (by unfold tuB; rw [c_2]; decide))
  refine lv_aload_n hx hb dX8_keyOf_19 rfl (lv_at hl 0 rfl) ?_
  refine n_iconst hx hb 1 dX8_keyOf_20 (by decide) ?_
  refine k_rwV (As := [.int (nI 1)]) (rest := []) (wc := oX8 T q (sa (sa (sc (sc (sc Z 0 (nI 0)) 8 (nI (rtE cd L 0 ((Z 13)) ((Z 15))).1.1)) 13 (nI (rtE cd L 0 ((Z 13)) ((Z 15))).1.2.1)) 13 (rtE cd L 0 ((Z 13)) ((Z 15))).1.2.2) 15 (rtE cd L 0 ((Z 13)) ((Z 15))).2.1.2) g) (wr := []) (w1 := oX8 T q (sc (sa (sa (sc (sc (sc Z 0 (nI 0)) 8 (nI (rtE cd L 0 ((Z 13)) ((Z 15))).1.1)) 13 (nI (rtE cd L 0 ((Z 13)) ((Z 15))).1.2.1)) 13 (rtE cd L 0 ((Z 13)) ((Z 15))).1.2.2) 15 (rtE cd L 0 ((Z 13)) ((Z 15))).2.1.2) 0 (nI 1)) g) (d := 0) (mc := 0) (ms := 0) (v := nI 0) (isC := [0, 1, 2, 3, 4, 5, 6]) (isR := []) cx (c_X8_fails l G T H.size q (sa (sa (sc (sc (sc Z 0 (nI 0)) 8 (nI (rtE cd L 0 ((Z 13)) ((Z 15))).1.1)) 13 (nI (rtE cd L 0 ((Z 13)) ((Z 15))).1.2.1)) 13 (rtE cd L 0 ((Z 13)) ((Z 15))).1.2.2) 15 (rtE cd L 0 ((Z 13)) ((Z 15))).2.1.2) g (nI 1) ) (cwV 1 hts gX8_keyOf_X8_fails rfl rfl rfl (by decide +kernel) ⟨Nat.le_of_ble_eq_true rfl, Nat.le_of_ble_eq_true rfl⟩) ⟨hP, hD, hS, hA, hE, hK, rfl, rfl, rfl, rfl, by decide⟩ (va_recv hK hP (ci := 8) (q0 := 0) rfl rfl) rfl hl.1 rfl (Nat.le_of_ble_eq_true rfl) dX8_keyOf_21 ⟨Nat.le_of_ble_eq_true rfl, Nat.le_of_ble_eq_true rfl⟩ (fun H locs hP hD hS hz => ?_)
  have hP : va_P G vwCl [(q 0, .inr (8, [.int (nI 1), .ref (q 2), .ref (q 3), .int (Z 0 3), .ref (q 5), .int (Z 0 5), .ref (q 7), .int (Z 0 7), .int (nI (rtE cd L 0 ((Z 13)) ((Z 15))).1.1), .int (Z 0 9), .int (Z 0 10), .int (Z 0 11), .ref (q 13), .int (nI (rtE cd L 0 ((Z 13)) ((Z 15))).1.2.1), .ref (q 15), .long g])), (q 2, .inl (T 0, 267, .inl (Z 2))), (q 3, .inl (T 0, 1602, .inl (Z 3))), (q 5, .inl (T 0, 267, .inl (Z 5))), (q 7, .inl (T 0, 60, .inl (Z 7))), (q 13, .inl (T 0, 8, .inl (rtE cd L 0 ((Z 13)) ((Z 15))).1.2.2)), (q 15, .inl (T 0, 3, .inl (rtE cd L 0 ((Z 13)) ((Z 15))).2.1.2))] H := hP
  have hD : va_D A [(q 0, .inr (8, [.int (nI 1), .ref (q 2), .ref (q 3), .int (Z 0 3), .ref (q 5), .int (Z 0 5), .ref (q 7), .int (Z 0 7), .int (nI (rtE cd L 0 ((Z 13)) ((Z 15))).1.1), .int (Z 0 9), .int (Z 0 10), .int (Z 0 11), .ref (q 13), .int (nI (rtE cd L 0 ((Z 13)) ((Z 15))).1.2.1), .ref (q 15), .long g])), (q 2, .inl (T 0, 267, .inl (Z 2))), (q 3, .inl (T 0, 1602, .inl (Z 3))), (q 5, .inl (T 0, 267, .inl (Z 5))), (q 7, .inl (T 0, 60, .inl (Z 7))), (q 13, .inl (T 0, 8, .inl (rtE cd L 0 ((Z 13)) ((Z 15))).1.2.2)), (q 15, .inl (T 0, 3, .inl (rtE cd L 0 ((Z 13)) ((Z 15))).2.1.2))] := hD
  subst hQ
  have e_3 : (nI 1) = nI 1 := (by first | rfl | simp [bI, c_1])
  have e_4 : nI (rtE cd L 0 ((Z 13)) ((Z 15))).1.1 = nI (rtE cd L 0 (Z 13) (Z 15)).1.1 := (by first | rfl | simp [bI, c_1])
  have e_5 : (rtE cd L 0 ((Z 13)) ((Z 15))).1.2.2 = (rtE cd L 0 (Z 13) (Z 15)).1.2.2 := (by first | rfl | simp [bI, c_1])
  have e_6 : nI (rtE cd L 0 ((Z 13)) ((Z 15))).1.2.1 = nI (rtE cd L 0 (Z 13) (Z 15)).1.2.1 := (by first | rfl | simp [bI, c_1])
  have e_7 : (rtE cd L 0 ((Z 13)) ((Z 15))).2.1.2 = (rtE cd L 0 (Z 13) (Z 15)).2.1.2 := (by first | rfl | simp [bI, c_1])
  rw [e_6, e_4, e_5, e_7, e_3] at hP hD
  have hP9 : va_P G vwCl (oX8 T q (sa (sa (sc (sc (sc Z 0 (nI 1)) 8 (nI (rtE cd L 0 (Z 13) (Z 15)).1.1)) 13 (nI (rtE cd L 0 (Z 13) (Z 15)).1.2.1)) 13 (rtE cd L 0 (Z 13) (Z 15)).1.2.2) 15 (rtE cd L 0 (Z 13) (Z 15)).2.1.2) g) H := hP
  have hD9 : va_D A (oX8 T q (sa (sa (sc (sc (sc Z 0 (nI 1)) 8 (nI (rtE cd L 0 (Z 13) (Z 15)).1.1)) 13 (nI (rtE cd L 0 (Z 13) (Z 15)).1.2.1)) 13 (rtE cd L 0 (Z 13) (Z 15)).1.2.2) 15 (rtE cd L 0 (Z 13) (Z 15)).2.1.2) g) := hD
  exact e_rwi hx hb hr hlocks hS (by first | rfl | simp [bI, c_1]) hP9 hD9 dX8_keyOf_24
set_option maxHeartbeats 4000000 in
set_option maxRecDepth 100000 in
theorem c_X8_keyOf (l : Launch) (G : va_G) (T : Nat → ClassId) (sz : Nat) (q : Nat → Nat) (Z : Nat → Nat → Int32) (g : Int64) (L : Nat) (cd : Nat → Nat) (hle : Z 0 7 = nI L) (hcd : ∀ i : Nat, i < L → Z 7 i = nI (cd i)) (hc127 : ∀ i : Nat, i < L → cd i < 127) (hL60 : L ≤ 60) (hyes : tuB cd L Z = true) : RWi l yX8_keyOf wsX8_keyOf 6 0 0 G T sz (oX8 T q Z g) [.ref (q 0)] (mFk (tuZ cd L Z) (tuN cd L Z)) (oX8 T q (sa (sa (sc (sc (sc Z 0 (nI 0)) 8 (nI (rtE cd L 0 (Z 13) (Z 15)).1.1)) 13 (nI (rtE cd L 0 (Z 13) (Z 15)).1.2.1)) 13 (rtE cd L 0 (Z 13) (Z 15)).1.2.2) 15 (rtE cd L 0 (Z 13) (Z 15)).2.1.2) g) := by
  refine Met.ofW (cc := cX8_keyOf) (maxL := 1) (ret := (some .int)) (by decide) rfl ?_
  intro p e s m args below meth c s₁ B hml hv
  obtain ⟨ha, hsz, hP, hK, hD0, hE0⟩ := hv
  have hx := B.exec
  have hb := B.bytes
  have hr := B.returns
  have hlocks := B.notSynchronized
  have hts := atoms_spec (ws := wsX8_keyOf) B.pre
  have hown : s.vm.findClass RX8 = some m.cls := findClass_of_methodNamed B.named
  have cx : CallFix p m c cX8_keyOf 1 s args wsX8_keyOf RX8 := ⟨hx, hb, hml, hown, hts⟩
  subst hsz
  have hD := hD0.self (sz := s.heap.size)
  generalize hAe : va_A (oX8 T q Z g) s.heap.size = A at hD hE0 ⊢
  have hE : gE A s s.heap := hE0
  have hA : ∀ q : Nat, s.heap.size ≤ q → A q := fun q h => by rw [← hAe]; exact Or.inr h
  have hS : va_S A s.heap s.heap [] := va_S.rf
  refine w_entry ha (Nat.le_of_ble_eq_true rfl) (fun ls hl => ?_)
  refine w_q (fun Q0 hQ => ?_)
  have lk28 := hts (.fieldLink RX8 28 "WhistleTunesModel" "thrown" "I") (by decide +kernel)
  have hinX8 : ∀ w ∈ wsX80, w ∈ wsX8_keyOf := by decide +kernel
  have hl : lv_has ls 1 [(0, .ref (q 0))] := hl
  have hP : va_P G vwCl [(q 0, .inr (8, [.int (Z 0 0), .ref (q 2), .ref (q 3), .int (Z 0 3), .ref (q 5), .int (Z 0 5), .ref (q 7), .int (Z 0 7), .int (Z 0 8), .int (Z 0 9), .int (Z 0 10), .int (Z 0 11), .ref (q 13), .int (Z 0 13), .ref (q 15), .long g])), (q 2, .inl (T 0, 267, .inl (Z 2))), (q 3, .inl (T 0, 1602, .inl (Z 3))), (q 5, .inl (T 0, 267, .inl (Z 5))), (q 7, .inl (T 0, 60, .inl (Z 7))), (q 13, .inl (T 0, 8, .inl (Z 13))), (q 15, .inl (T 0, 3, .inl (Z 15)))] s.heap := hP
  have hD : va_D A [(q 0, .inr (8, [.int (Z 0 0), .ref (q 2), .ref (q 3), .int (Z 0 3), .ref (q 5), .int (Z 0 5), .ref (q 7), .int (Z 0 7), .int (Z 0 8), .int (Z 0 9), .int (Z 0 10), .int (Z 0 11), .ref (q 13), .int (Z 0 13), .ref (q 15), .long g])), (q 2, .inl (T 0, 267, .inl (Z 2))), (q 3, .inl (T 0, 1602, .inl (Z 3))), (q 5, .inl (T 0, 267, .inl (Z 5))), (q 7, .inl (T 0, 60, .inl (Z 7))), (q 13, .inl (T 0, 8, .inl (Z 13))), (q 15, .inl (T 0, 3, .inl (Z 15)))] := hD
  skip
  have htn := tuN_le cd L Z
  have hta := tuA_le cd L Z
  unfold tuN at htn
  refine w_h (fun H locs hHe hLe => ?_)
  have hP : va_P G vwCl [(q 0, .inr (8, [.int (Z 0 0), .ref (q 2), .ref (q 3), .int (Z 0 3), .ref (q 5), .int (Z 0 5), .ref (q 7), .int (Z 0 7), .int (Z 0 8), .int (Z 0 9), .int (Z 0 10), .int (Z 0 11), .ref (q 13), .int (Z 0 13), .ref (q 15), .long g])), (q 2, .inl (T 0, 267, .inl (Z 2))), (q 3, .inl (T 0, 1602, .inl (Z 3))), (q 5, .inl (T 0, 267, .inl (Z 5))), (q 7, .inl (T 0, 60, .inl (Z 7))), (q 13, .inl (T 0, 8, .inl (Z 13))), (q 15, .inl (T 0, 3, .inl (Z 15)))] H := by rw [hHe]; exact hP
  have hS : va_S A s.heap H locs := by rw [hHe, hLe]; exact hS
  refine lv_aload_n hx hb dX8_keyOf_0 rfl (lv_at hl 0 rfl) ?_
  refine n_iconst hx hb 0 dX8_keyOf_1 (by decide) ?_
  refine va_put (D := G) (ci := 8) (v := .int (nI 0)) (ty := .int) (C := RX8) (T := TX8) (N := 16) hx hb hts hinX8 tyX8 tyX8_ok nmX8 hown hK hP hD hS 0 rfl rfl 0 (by decide) lk28 (fun _ h9 => h9) rfl (by decide +kernel) rfl rfl (Nat.le_of_ble_eq_true rfl) dX8_keyOf_2 (fun H locs hP hD hS => ?_)
  have hP : va_P G vwCl [(q 0, .inr (8, [.int (nI 0), .ref (q 2), .ref (q 3), .int (Z 0 3), .ref (q 5), .int (Z 0 5), .ref (q 7), .int (Z 0 7), .int (Z 0 8), .int (Z 0 9), .int (Z 0 10), .int (Z 0 11), .ref (q 13), .int (Z 0 13), .ref (q 15), .long g])), (q 2, .inl (T 0, 267, .inl (Z 2))), (q 3, .inl (T 0, 1602, .inl (Z 3))), (q 5, .inl (T 0, 267, .inl (Z 5))), (q 7, .inl (T 0, 60, .inl (Z 7))), (q 13, .inl (T 0, 8, .inl (Z 13))), (q 15, .inl (T 0, 3, .inl (Z 15)))] H := hP
  have hD : va_D A [(q 0, .inr (8, [.int (nI 0), .ref (q 2), .ref (q 3), .int (Z 0 3), .ref (q 5), .int (Z 0 5), .ref (q 7), .int (Z 0 7), .int (Z 0 8), .int (Z 0 9), .int (Z 0 10), .int (Z 0 11), .ref (q 13), .int (Z 0 13), .ref (q 15), .long g])), (q 2, .inl (T 0, 267, .inl (Z 2))), (q 3, .inl (T 0, 1602, .inl (Z 3))), (q 5, .inl (T 0, 267, .inl (Z 5))), (q 7, .inl (T 0, 60, .inl (Z 7))), (q 13, .inl (T 0, 8, .inl (Z 13))), (q 15, .inl (T 0, 3, .inl (Z 15)))] := hD
  refine lv_aload_n hx hb dX8_keyOf_5 rfl (lv_at hl 0 rfl) ?_
  refine k_rwV (As := []) (rest := []) (wc := oX8 T q (sc Z 0 (nI 0)) g) (wr := []) (w1 := oX8 T q (sa (sa (sc (sc (sc Z 0 (nI 0)) 8 (nI (rtE cd L 0 ((sc Z 0 (nI 0)) 13) ((sc Z 0 (nI 0)) 15)).1.1)) 13 (nI (rtE cd L 0 ((sc Z 0 (nI 0)) 13) ((sc Z 0 (nI 0)) 15)).1.2.1)) 13 (rtE cd L 0 ((sc Z 0 (nI 0)) 13) ((sc Z 0 (nI 0)) 15)).1.2.2) 15 (rtE cd L 0 ((sc Z 0 (nI 0)) 13) ((sc Z 0 (nI 0)) 15)).2.1.2) g) (d := 3) (mc := 0) (ms := 0) (v := bI (rtB (rtE cd L 0 ((Z 13)) ((Z 15))) && decide ((rtE cd L 0 ((Z 13)) ((Z 15))).1.1 = L))) (isC := [0, 1, 2, 3, 4, 5, 6]) (isR := []) cx (c_X8_isTuneText l G T H.size q (sc Z 0 (nI 0)) g L cd (by first | assumption | rfl | omega) (by first | assumption | rfl | omega) (by omega) (by omega)) (cwV 0 hts gX8_keyOf_X8_isTuneText rfl rfl rfl (by decide +kernel) ⟨Nat.le_of_ble_eq_true rfl, Nat.le_of_ble_eq_true rfl⟩) ⟨hP, hD, hS, hA, hE, hK, rfl, rfl, rfl, rfl, by decide⟩ (va_recv hK hP (ci := 8) (q0 := 0) rfl rfl) rfl hl.1 rfl (Nat.le_of_ble_eq_true rfl) dX8_keyOf_6 ⟨Nat.le_of_ble_eq_true rfl, Nat.le_of_ble_eq_true rfl⟩ (fun H locs hP hD hS hz => ?_)
  have hP : va_P G vwCl [(q 0, .inr (8, [.int (nI 0), .ref (q 2), .ref (q 3), .int (Z 0 3), .ref (q 5), .int (Z 0 5), .ref (q 7), .int (Z 0 7), .int (nI (rtE cd L 0 ((Z 13)) ((Z 15))).1.1), .int (Z 0 9), .int (Z 0 10), .int (Z 0 11), .ref (q 13), .int (nI (rtE cd L 0 ((Z 13)) ((Z 15))).1.2.1), .ref (q 15), .long g])), (q 2, .inl (T 0, 267, .inl (Z 2))), (q 3, .inl (T 0, 1602, .inl (Z 3))), (q 5, .inl (T 0, 267, .inl (Z 5))), (q 7, .inl (T 0, 60, .inl (Z 7))), (q 13, .inl (T 0, 8, .inl (rtE cd L 0 ((Z 13)) ((Z 15))).1.2.2)), (q 15, .inl (T 0, 3, .inl (rtE cd L 0 ((Z 13)) ((Z 15))).2.1.2))] H := hP
  have hD : va_D A [(q 0, .inr (8, [.int (nI 0), .ref (q 2), .ref (q 3), .int (Z 0 3), .ref (q 5), .int (Z 0 5), .ref (q 7), .int (Z 0 7), .int (nI (rtE cd L 0 ((Z 13)) ((Z 15))).1.1), .int (Z 0 9), .int (Z 0 10), .int (Z 0 11), .ref (q 13), .int (nI (rtE cd L 0 ((Z 13)) ((Z 15))).1.2.1), .ref (q 15), .long g])), (q 2, .inl (T 0, 267, .inl (Z 2))), (q 3, .inl (T 0, 1602, .inl (Z 3))), (q 5, .inl (T 0, 267, .inl (Z 5))), (q 7, .inl (T 0, 60, .inl (Z 7))), (q 13, .inl (T 0, 8, .inl (rtE cd L 0 ((Z 13)) ((Z 15))).1.2.2)), (q 15, .inl (T 0, 3, .inl (rtE cd L 0 ((Z 13)) ((Z 15))).2.1.2))] := hD
  refine b_if_eq (b := rtB (rtE cd L 0 ((Z 13)) ((Z 15))) && decide ((rtE cd L 0 ((Z 13)) ((Z 15))).1.1 = L)) (tgt := 19) hx hb dX8_keyOf_9 (by decide) (fun c_1 => by exfalso; exact absurd hyes (by unfold tuB; rw [c_1]; decide)) (fun c_2 => ?_)
  refine lv_aload_n hx hb dX8_keyOf_12 rfl (lv_at hl 0 rfl) ?_
  refine k_roV (As := []) (rest := []) (wc := oX8 T q (sa (sa (sc (sc (sc Z 0 (nI 0)) 8 (nI (rtE cd L 0 ((Z 13)) ((Z 15))).1.1)) 13 (nI (rtE cd L 0 ((Z 13)) ((Z 15))).1.2.1)) 13 (rtE cd L 0 ((Z 13)) ((Z 15))).1.2.2) 15 (rtE cd L 0 ((Z 13)) ((Z 15))).2.1.2) g) (d := 4) (v := mFk (sa (sa (sc (sc (sc Z 0 (nI 0)) 8 (nI (rtE cd L 0 ((Z 13)) ((Z 15))).1.1)) 13 (nI (rtE cd L 0 ((Z 13)) ((Z 15))).1.2.1)) 13 (rtE cd L 0 ((Z 13)) ((Z 15))).1.2.2) 15 (rtE cd L 0 ((Z 13)) ((Z 15))).2.1.2) (rtE cd L 0 ((Z 13)) ((Z 15))).1.2.1) cx (c_X8_findKey l G T A q (sa (sa (sc (sc (sc Z 0 (nI 0)) 8 (nI (rtE cd L 0 ((Z 13)) ((Z 15))).1.1)) 13 (nI (rtE cd L 0 ((Z 13)) ((Z 15))).1.2.1)) 13 (rtE cd L 0 ((Z 13)) ((Z 15))).1.2.2) 15 (rtE cd L 0 ((Z 13)) ((Z 15))).2.1.2) g (rtE cd L 0 ((Z 13)) ((Z 15))).1.2.1 (by first | assumption | rfl | omega) (by omega)) (cwV 0 hts gX8_keyOf_X8_findKey rfl rfl rfl (by decide +kernel) ⟨Nat.le_of_ble_eq_true rfl, Nat.le_of_ble_eq_true rfl⟩) hP hK (hE.kept hS.2.1) (va_recv hK hP (ci := 8) (q0 := 0) rfl rfl) rfl hl.1 rfl (Nat.le_of_ble_eq_true rfl) dX8_keyOf_13 ⟨Nat.le_of_ble_eq_true rfl, Nat.le_of_ble_eq_true rfl⟩ ?_
  refine lv_goto (tgt := 24) hx hb dX8_keyOf_16 (by decide) ?_
  subst hQ
  have e_3 : nI (rtE cd L 0 ((Z 13)) ((Z 15))).1.1 = nI (rtE cd L 0 (Z 13) (Z 15)).1.1 := (by first | rfl | simp [bI, c_2])
  have e_4 : (rtE cd L 0 ((Z 13)) ((Z 15))).1.2.2 = (rtE cd L 0 (Z 13) (Z 15)).1.2.2 := (by first | rfl | simp [bI, c_2])
  have e_5 : nI (rtE cd L 0 ((Z 13)) ((Z 15))).1.2.1 = nI (rtE cd L 0 (Z 13) (Z 15)).1.2.1 := (by first | rfl | simp [bI, c_2])
  have e_6 : (rtE cd L 0 ((Z 13)) ((Z 15))).2.1.2 = (rtE cd L 0 (Z 13) (Z 15)).2.1.2 := (by first | rfl | simp [bI, c_2])
  rw [e_5, e_3, e_4, e_6] at hP hD
  have hP9 : va_P G vwCl (oX8 T q (sa (sa (sc (sc (sc Z 0 (nI 0)) 8 (nI (rtE cd L 0 (Z 13) (Z 15)).1.1)) 13 (nI (rtE cd L 0 (Z 13) (Z 15)).1.2.1)) 13 (rtE cd L 0 (Z 13) (Z 15)).1.2.2) 15 (rtE cd L 0 (Z 13) (Z 15)).2.1.2) g) H := hP
  have hD9 : va_D A (oX8 T q (sa (sa (sc (sc (sc Z 0 (nI 0)) 8 (nI (rtE cd L 0 (Z 13) (Z 15)).1.1)) 13 (nI (rtE cd L 0 (Z 13) (Z 15)).1.2.1)) 13 (rtE cd L 0 (Z 13) (Z 15)).1.2.2) 15 (rtE cd L 0 (Z 13) (Z 15)).2.1.2) g) := hD
  exact e_rwi hx hb hr hlocks hS rfl hP9 hD9 dX8_keyOf_24
set_option maxHeartbeats 4000000 in
set_option maxRecDepth 100000 in
theorem c_X8_decode_1 (l : Launch) (G : va_G) (T : Nat → ClassId) (sz : Nat) (q : Nat → Nat) (Z : Nat → Nat → Int32) (g : Int64) (L : Nat) (cd : Nat → Nat) (x : Int32) (y : Int32) (hle : Z 0 7 = nI L) (hcd : ∀ i : Nat, i < L → Z 7 i = nI (cd i)) (hc127 : ∀ i : Nat, i < L → cd i < 127) (hL60 : L ≤ 60) (hno : (tuB cd L Z && (pWi x (nI 0) (nI 6) && pWi y (nI 0) (nI 1))) = false) : RWi l yX8_decode wsX8_decode 6 0 0 G T sz (oX8 T q Z g) [.ref (q 0), .int x, .int y] (nI 0) (oX8 T q (sa (sa (sc (sc (sc Z 0 (nI 1)) 8 (nI (rtE cd L 0 (Z 13) (Z 15)).1.1)) 13 (nI (rtE cd L 0 (Z 13) (Z 15)).1.2.1)) 13 (rtE cd L 0 (Z 13) (Z 15)).1.2.2) 15 (rtE cd L 0 (Z 13) (Z 15)).2.1.2) g) := by
  refine Met.ofW (cc := cX8_decode) (maxL := 3) (ret := (some .int)) (by decide) rfl ?_
  intro p e s m args below meth c s₁ B hml hv
  obtain ⟨ha, hsz, hP, hK, hD0, hE0⟩ := hv
  have hx := B.exec
  have hb := B.bytes
  have hr := B.returns
  have hlocks := B.notSynchronized
  have hts := atoms_spec (ws := wsX8_decode) B.pre
  have hown : s.vm.findClass RX8 = some m.cls := findClass_of_methodNamed B.named
  have cx : CallFix p m c cX8_decode 3 s args wsX8_decode RX8 := ⟨hx, hb, hml, hown, hts⟩
  subst hsz
  have hD := hD0.self (sz := s.heap.size)
  generalize hAe : va_A (oX8 T q Z g) s.heap.size = A at hD hE0 ⊢
  have hE : gE A s s.heap := hE0
  have hA : ∀ q : Nat, s.heap.size ≤ q → A q := fun q h => by rw [← hAe]; exact Or.inr h
  have hS : va_S A s.heap s.heap [] := va_S.rf
  refine w_entry ha (Nat.le_of_ble_eq_true rfl) (fun ls hl => ?_)
  refine w_q (fun Q0 hQ => ?_)
  have lk28 := hts (.fieldLink RX8 28 "WhistleTunesModel" "thrown" "I") (by decide +kernel)
  have hinX8 : ∀ w ∈ wsX80, w ∈ wsX8_decode := by decide +kernel
  have hl : lv_has ls 3 [(0, .ref (q 0)), (1, .int x), (2, .int y)] := hl
  have hP : va_P G vwCl [(q 0, .inr (8, [.int (Z 0 0), .ref (q 2), .ref (q 3), .int (Z 0 3), .ref (q 5), .int (Z 0 5), .ref (q 7), .int (Z 0 7), .int (Z 0 8), .int (Z 0 9), .int (Z 0 10), .int (Z 0 11), .ref (q 13), .int (Z 0 13), .ref (q 15), .long g])), (q 2, .inl (T 0, 267, .inl (Z 2))), (q 3, .inl (T 0, 1602, .inl (Z 3))), (q 5, .inl (T 0, 267, .inl (Z 5))), (q 7, .inl (T 0, 60, .inl (Z 7))), (q 13, .inl (T 0, 8, .inl (Z 13))), (q 15, .inl (T 0, 3, .inl (Z 15)))] s.heap := hP
  have hD : va_D A [(q 0, .inr (8, [.int (Z 0 0), .ref (q 2), .ref (q 3), .int (Z 0 3), .ref (q 5), .int (Z 0 5), .ref (q 7), .int (Z 0 7), .int (Z 0 8), .int (Z 0 9), .int (Z 0 10), .int (Z 0 11), .ref (q 13), .int (Z 0 13), .ref (q 15), .long g])), (q 2, .inl (T 0, 267, .inl (Z 2))), (q 3, .inl (T 0, 1602, .inl (Z 3))), (q 5, .inl (T 0, 267, .inl (Z 5))), (q 7, .inl (T 0, 60, .inl (Z 7))), (q 13, .inl (T 0, 8, .inl (Z 13))), (q 15, .inl (T 0, 3, .inl (Z 15)))] := hD
  skip
  refine w_h (fun H locs hHe hLe => ?_)
  have hP : va_P G vwCl [(q 0, .inr (8, [.int (Z 0 0), .ref (q 2), .ref (q 3), .int (Z 0 3), .ref (q 5), .int (Z 0 5), .ref (q 7), .int (Z 0 7), .int (Z 0 8), .int (Z 0 9), .int (Z 0 10), .int (Z 0 11), .ref (q 13), .int (Z 0 13), .ref (q 15), .long g])), (q 2, .inl (T 0, 267, .inl (Z 2))), (q 3, .inl (T 0, 1602, .inl (Z 3))), (q 5, .inl (T 0, 267, .inl (Z 5))), (q 7, .inl (T 0, 60, .inl (Z 7))), (q 13, .inl (T 0, 8, .inl (Z 13))), (q 15, .inl (T 0, 3, .inl (Z 15)))] H := by rw [hHe]; exact hP
  have hS : va_S A s.heap H locs := by rw [hHe, hLe]; exact hS
  refine lv_aload_n hx hb dX8_decode_0 rfl (lv_at hl 0 rfl) ?_
  refine n_iconst hx hb 0 dX8_decode_1 (by decide) ?_
  refine va_put (D := G) (ci := 8) (v := .int (nI 0)) (ty := .int) (C := RX8) (T := TX8) (N := 16) hx hb hts hinX8 tyX8 tyX8_ok nmX8 hown hK hP hD hS 0 rfl rfl 0 (by decide) lk28 (fun _ h9 => h9) rfl (by decide +kernel) rfl rfl (Nat.le_of_ble_eq_true rfl) dX8_decode_2 (fun H locs hP hD hS => ?_)
  have hP : va_P G vwCl [(q 0, .inr (8, [.int (nI 0), .ref (q 2), .ref (q 3), .int (Z 0 3), .ref (q 5), .int (Z 0 5), .ref (q 7), .int (Z 0 7), .int (Z 0 8), .int (Z 0 9), .int (Z 0 10), .int (Z 0 11), .ref (q 13), .int (Z 0 13), .ref (q 15), .long g])), (q 2, .inl (T 0, 267, .inl (Z 2))), (q 3, .inl (T 0, 1602, .inl (Z 3))), (q 5, .inl (T 0, 267, .inl (Z 5))), (q 7, .inl (T 0, 60, .inl (Z 7))), (q 13, .inl (T 0, 8, .inl (Z 13))), (q 15, .inl (T 0, 3, .inl (Z 15)))] H := hP
  have hD : va_D A [(q 0, .inr (8, [.int (nI 0), .ref (q 2), .ref (q 3), .int (Z 0 3), .ref (q 5), .int (Z 0 5), .ref (q 7), .int (Z 0 7), .int (Z 0 8), .int (Z 0 9), .int (Z 0 10), .int (Z 0 11), .ref (q 13), .int (Z 0 13), .ref (q 15), .long g])), (q 2, .inl (T 0, 267, .inl (Z 2))), (q 3, .inl (T 0, 1602, .inl (Z 3))), (q 5, .inl (T 0, 267, .inl (Z 5))), (q 7, .inl (T 0, 60, .inl (Z 7))), (q 13, .inl (T 0, 8, .inl (Z 13))), (q 15, .inl (T 0, 3, .inl (Z 15)))] := hD
  refine lv_aload_n hx hb dX8_decode_5 rfl (lv_at hl 0 rfl) ?_
  refine k_rwV (As := []) (rest := []) (wc := oX8 T q (sc Z 0 (nI 0)) g) (wr := []) (w1 := oX8 T q (sa (sa (sc (sc (sc Z 0 (nI 0)) 8 (nI (rtE cd L 0 ((sc Z 0 (nI 0)) 13) ((sc Z 0 (nI 0)) 15)).1.1)) 13 (nI (rtE cd L 0 ((sc Z 0 (nI 0)) 13) ((sc Z 0 (nI 0)) 15)).1.2.1)) 13 (rtE cd L 0 ((sc Z 0 (nI 0)) 13) ((sc Z 0 (nI 0)) 15)).1.2.2) 15 (rtE cd L 0 ((sc Z 0 (nI 0)) 13) ((sc Z 0 (nI 0)) 15)).2.1.2) g) (d := 3) (mc := 0) (ms := 0) (v := bI (rtB (rtE cd L 0 ((Z 13)) ((Z 15))) && decide ((rtE cd L 0 ((Z 13)) ((Z 15))).1.1 = L))) (isC := [0, 1, 2, 3, 4, 5, 6]) (isR := []) cx (c_X8_isTuneText l G T H.size q (sc Z 0 (nI 0)) g L cd (by first | assumption | rfl | omega) (by first | assumption | rfl | omega) (by omega) (by omega)) (cwV 0 hts gX8_decode_X8_isTuneText rfl rfl rfl (by decide +kernel) ⟨Nat.le_of_ble_eq_true rfl, Nat.le_of_ble_eq_true rfl⟩) ⟨hP, hD, hS, hA, hE, hK, rfl, rfl, rfl, rfl, by decide⟩ (va_recv hK hP (ci := 8) (q0 := 0) rfl rfl) rfl hl.1 rfl (Nat.le_of_ble_eq_true rfl) dX8_decode_6 ⟨Nat.le_of_ble_eq_true rfl, Nat.le_of_ble_eq_true rfl⟩ (fun H locs hP hD hS hz => ?_)
  have hP : va_P G vwCl [(q 0, .inr (8, [.int (nI 0), .ref (q 2), .ref (q 3), .int (Z 0 3), .ref (q 5), .int (Z 0 5), .ref (q 7), .int (Z 0 7), .int (nI (rtE cd L 0 ((Z 13)) ((Z 15))).1.1), .int (Z 0 9), .int (Z 0 10), .int (Z 0 11), .ref (q 13), .int (nI (rtE cd L 0 ((Z 13)) ((Z 15))).1.2.1), .ref (q 15), .long g])), (q 2, .inl (T 0, 267, .inl (Z 2))), (q 3, .inl (T 0, 1602, .inl (Z 3))), (q 5, .inl (T 0, 267, .inl (Z 5))), (q 7, .inl (T 0, 60, .inl (Z 7))), (q 13, .inl (T 0, 8, .inl (rtE cd L 0 ((Z 13)) ((Z 15))).1.2.2)), (q 15, .inl (T 0, 3, .inl (rtE cd L 0 ((Z 13)) ((Z 15))).2.1.2))] H := hP
  have hD : va_D A [(q 0, .inr (8, [.int (nI 0), .ref (q 2), .ref (q 3), .int (Z 0 3), .ref (q 5), .int (Z 0 5), .ref (q 7), .int (Z 0 7), .int (nI (rtE cd L 0 ((Z 13)) ((Z 15))).1.1), .int (Z 0 9), .int (Z 0 10), .int (Z 0 11), .ref (q 13), .int (nI (rtE cd L 0 ((Z 13)) ((Z 15))).1.2.1), .ref (q 15), .long g])), (q 2, .inl (T 0, 267, .inl (Z 2))), (q 3, .inl (T 0, 1602, .inl (Z 3))), (q 5, .inl (T 0, 267, .inl (Z 5))), (q 7, .inl (T 0, 60, .inl (Z 7))), (q 13, .inl (T 0, 8, .inl (rtE cd L 0 ((Z 13)) ((Z 15))).1.2.2)), (q 15, .inl (T 0, 3, .inl (rtE cd L 0 ((Z 13)) ((Z 15))).2.1.2))] := hD
  refine b_if_eq (b := rtB (rtE cd L 0 ((Z 13)) ((Z 15))) && decide ((rtE cd L 0 ((Z 13)) ((Z 15))).1.1 = L)) (tgt := 28) hx hb dX8_decode_9 (by decide) (fun c_1 => ?_) (fun c_2 => ?_)
  · skip
    refine lv_aload_n hx hb dX8_decode_28 rfl (lv_at hl 0 rfl) ?_
    refine n_iconst hx hb 1 dX8_decode_29 (by decide) ?_
    refine k_rwV (As := [.int (nI 1)]) (rest := []) (wc := oX8 T q (sa (sa (sc (sc (sc Z 0 (nI 0)) 8 (nI (rtE cd L 0 ((Z 13)) ((Z 15))).1.1)) 13 (nI (rtE cd L 0 ((Z 13)) ((Z 15))).1.2.1)) 13 (rtE cd L 0 ((Z 13)) ((Z 15))).1.2.2) 15 (rtE cd L 0 ((Z 13)) ((Z 15))).2.1.2) g) (wr := []) (w1 := oX8 T q (sc (sa (sa (sc (sc (sc Z 0 (nI 0)) 8 (nI (rtE cd L 0 ((Z 13)) ((Z 15))).1.1)) 13 (nI (rtE cd L 0 ((Z 13)) ((Z 15))).1.2.1)) 13 (rtE cd L 0 ((Z 13)) ((Z 15))).1.2.2) 15 (rtE cd L 0 ((Z 13)) ((Z 15))).2.1.2) 0 (nI 1)) g) (d := 0) (mc := 0) (ms := 0) (v := nI 0) (isC := [0, 1, 2, 3, 4, 5, 6]) (isR := []) cx (c_X8_fails l G T H.size q (sa (sa (sc (sc (sc Z 0 (nI 0)) 8 (nI (rtE cd L 0 ((Z 13)) ((Z 15))).1.1)) 13 (nI (rtE cd L 0 ((Z 13)) ((Z 15))).1.2.1)) 13 (rtE cd L 0 ((Z 13)) ((Z 15))).1.2.2) 15 (rtE cd L 0 ((Z 13)) ((Z 15))).2.1.2) g (nI 1) ) (cwV 1 hts gX8_decode_X8_fails rfl rfl rfl (by decide +kernel) ⟨Nat.le_of_ble_eq_true rfl, Nat.le_of_ble_eq_true rfl⟩) ⟨hP, hD, hS, hA, hE, hK, rfl, rfl, rfl, rfl, by decide⟩ (va_recv hK hP (ci := 8) (q0 := 0) rfl rfl) rfl hl.1 rfl (Nat.le_of_ble_eq_true rfl) dX8_decode_30 ⟨Nat.le_of_ble_eq_true rfl, Nat.le_of_ble_eq_true rfl⟩ (fun H locs hP hD hS hz => ?_)
    have hP : va_P G vwCl [(q 0, .inr (8, [.int (nI 1), .ref (q 2), .ref (q 3), .int (Z 0 3), .ref (q 5), .int (Z 0 5), .ref (q 7), .int (Z 0 7), .int (nI (rtE cd L 0 ((Z 13)) ((Z 15))).1.1), .int (Z 0 9), .int (Z 0 10), .int (Z 0 11), .ref (q 13), .int (nI (rtE cd L 0 ((Z 13)) ((Z 15))).1.2.1), .ref (q 15), .long g])), (q 2, .inl (T 0, 267, .inl (Z 2))), (q 3, .inl (T 0, 1602, .inl (Z 3))), (q 5, .inl (T 0, 267, .inl (Z 5))), (q 7, .inl (T 0, 60, .inl (Z 7))), (q 13, .inl (T 0, 8, .inl (rtE cd L 0 ((Z 13)) ((Z 15))).1.2.2)), (q 15, .inl (T 0, 3, .inl (rtE cd L 0 ((Z 13)) ((Z 15))).2.1.2))] H := hP
    have hD : va_D A [(q 0, .inr (8, [.int (nI 1), .ref (q 2), .ref (q 3), .int (Z 0 3), .ref (q 5), .int (Z 0 5), .ref (q 7), .int (Z 0 7), .int (nI (rtE cd L 0 ((Z 13)) ((Z 15))).1.1), .int (Z 0 9), .int (Z 0 10), .int (Z 0 11), .ref (q 13), .int (nI (rtE cd L 0 ((Z 13)) ((Z 15))).1.2.1), .ref (q 15), .long g])), (q 2, .inl (T 0, 267, .inl (Z 2))), (q 3, .inl (T 0, 1602, .inl (Z 3))), (q 5, .inl (T 0, 267, .inl (Z 5))), (q 7, .inl (T 0, 60, .inl (Z 7))), (q 13, .inl (T 0, 8, .inl (rtE cd L 0 ((Z 13)) ((Z 15))).1.2.2)), (q 15, .inl (T 0, 3, .inl (rtE cd L 0 ((Z 13)) ((Z 15))).2.1.2))] := hD
    subst hQ
    have e_3 : (nI 1) = nI 1 := (by first | rfl | simp [bI, c_1])
    have e_4 : nI (rtE cd L 0 ((Z 13)) ((Z 15))).1.1 = nI (rtE cd L 0 (Z 13) (Z 15)).1.1 := (by first | rfl | simp [bI, c_1])
    have e_5 : (rtE cd L 0 ((Z 13)) ((Z 15))).1.2.2 = (rtE cd L 0 (Z 13) (Z 15)).1.2.2 := (by first | rfl | simp [bI, c_1])
    have e_6 : nI (rtE cd L 0 ((Z 13)) ((Z 15))).1.2.1 = nI (rtE cd L 0 (Z 13) (Z 15)).1.2.1 := (by first | rfl | simp [bI, c_1])
    have e_7 : (rtE cd L 0 ((Z 13)) ((Z 15))).2.1.2 = (rtE cd L 0 (Z 13) (Z 15)).2.1.2 := (by first | rfl | simp [bI, c_1])
    rw [e_6, e_4, e_5, e_7, e_3] at hP hD
    have hP9 : va_P G vwCl (oX8 T q (sa (sa (sc (sc (sc Z 0 (nI 1)) 8 (nI (rtE cd L 0 (Z 13) (Z 15)).1.1)) 13 (nI (rtE cd L 0 (Z 13) (Z 15)).1.2.1)) 13 (rtE cd L 0 (Z 13) (Z 15)).1.2.2) 15 (rtE cd L 0 (Z 13) (Z 15)).2.1.2) g) H := hP
    have hD9 : va_D A (oX8 T q (sa (sa (sc (sc (sc Z 0 (nI 1)) 8 (nI (rtE cd L 0 (Z 13) (Z 15)).1.1)) 13 (nI (rtE cd L 0 (Z 13) (Z 15)).1.2.1)) 13 (rtE cd L 0 (Z 13) (Z 15)).1.2.2) 15 (rtE cd L 0 (Z 13) (Z 15)).2.1.2) g) := hD
    exact e_rwi hx hb hr hlocks hS (by first | rfl | simp [bI, c_1]) hP9 hD9 dX8_decode_33
  · skip
    refine lv_iload_n hx hb dX8_decode_12 rfl (lv_at hl 1 rfl) ?_
    refine k_roS (As := [.int x]) (rest := []) (wc := []) (d := 1) (v := bI (pWi x (nI 0) (nI 6))) cx (c_X8_isKey l G T A x ) (va_cwS 1 hts gX8_decode_X8_isKey rfl rfl rfl (by decide +kernel) ⟨Nat.le_of_ble_eq_true rfl, Nat.le_of_ble_eq_true rfl⟩) (hP.sub (ws' := []) [] rfl) hK (hE.kept hS.2.1) rfl hl.1 rfl (Nat.le_of_ble_eq_true rfl) dX8_decode_13 ⟨Nat.le_of_ble_eq_true rfl, Nat.le_of_ble_eq_true rfl⟩ ?_
    refine b_if_eq (b := pWi x (nI 0) (nI 6)) (tgt := 28) hx hb dX8_decode_16 (by decide) (fun c_8 => ?_) (fun c_9 => ?_)
    · skip
      refine lv_aload_n hx hb dX8_decode_28 rfl (lv_at hl 0 rfl) ?_
      refine n_iconst hx hb 1 dX8_decode_29 (by decide) ?_
      refine k_rwV (As := [.int (nI 1)]) (rest := []) (wc := oX8 T q (sa (sa (sc (sc (sc Z 0 (nI 0)) 8 (nI (rtE cd L 0 ((Z 13)) ((Z 15))).1.1)) 13 (nI (rtE cd L 0 ((Z 13)) ((Z 15))).1.2.1)) 13 (rtE cd L 0 ((Z 13)) ((Z 15))).1.2.2) 15 (rtE cd L 0 ((Z 13)) ((Z 15))).2.1.2) g) (wr := []) (w1 := oX8 T q (sc (sa (sa (sc (sc (sc Z 0 (nI 0)) 8 (nI (rtE cd L 0 ((Z 13)) ((Z 15))).1.1)) 13 (nI (rtE cd L 0 ((Z 13)) ((Z 15))).1.2.1)) 13 (rtE cd L 0 ((Z 13)) ((Z 15))).1.2.2) 15 (rtE cd L 0 ((Z 13)) ((Z 15))).2.1.2) 0 (nI 1)) g) (d := 0) (mc := 0) (ms := 0) (v := nI 0) (isC := [0, 1, 2, 3, 4, 5, 6]) (isR := []) cx (c_X8_fails l G T H.size q (sa (sa (sc (sc (sc Z 0 (nI 0)) 8 (nI (rtE cd L 0 ((Z 13)) ((Z 15))).1.1)) 13 (nI (rtE cd L 0 ((Z 13)) ((Z 15))).1.2.1)) 13 (rtE cd L 0 ((Z 13)) ((Z 15))).1.2.2) 15 (rtE cd L 0 ((Z 13)) ((Z 15))).2.1.2) g (nI 1) ) (cwV 1 hts gX8_decode_X8_fails rfl rfl rfl (by decide +kernel) ⟨Nat.le_of_ble_eq_true rfl, Nat.le_of_ble_eq_true rfl⟩) ⟨hP, hD, hS, hA, hE, hK, rfl, rfl, rfl, rfl, by decide⟩ (va_recv hK hP (ci := 8) (q0 := 0) rfl rfl) rfl hl.1 rfl (Nat.le_of_ble_eq_true rfl) dX8_decode_30 ⟨Nat.le_of_ble_eq_true rfl, Nat.le_of_ble_eq_true rfl⟩ (fun H locs hP hD hS hz => ?_)
      have hP : va_P G vwCl [(q 0, .inr (8, [.int (nI 1), .ref (q 2), .ref (q 3), .int (Z 0 3), .ref (q 5), .int (Z 0 5), .ref (q 7), .int (Z 0 7), .int (nI (rtE cd L 0 ((Z 13)) ((Z 15))).1.1), .int (Z 0 9), .int (Z 0 10), .int (Z 0 11), .ref (q 13), .int (nI (rtE cd L 0 ((Z 13)) ((Z 15))).1.2.1), .ref (q 15), .long g])), (q 2, .inl (T 0, 267, .inl (Z 2))), (q 3, .inl (T 0, 1602, .inl (Z 3))), (q 5, .inl (T 0, 267, .inl (Z 5))), (q 7, .inl (T 0, 60, .inl (Z 7))), (q 13, .inl (T 0, 8, .inl (rtE cd L 0 ((Z 13)) ((Z 15))).1.2.2)), (q 15, .inl (T 0, 3, .inl (rtE cd L 0 ((Z 13)) ((Z 15))).2.1.2))] H := hP
      have hD : va_D A [(q 0, .inr (8, [.int (nI 1), .ref (q 2), .ref (q 3), .int (Z 0 3), .ref (q 5), .int (Z 0 5), .ref (q 7), .int (Z 0 7), .int (nI (rtE cd L 0 ((Z 13)) ((Z 15))).1.1), .int (Z 0 9), .int (Z 0 10), .int (Z 0 11), .ref (q 13), .int (nI (rtE cd L 0 ((Z 13)) ((Z 15))).1.2.1), .ref (q 15), .long g])), (q 2, .inl (T 0, 267, .inl (Z 2))), (q 3, .inl (T 0, 1602, .inl (Z 3))), (q 5, .inl (T 0, 267, .inl (Z 5))), (q 7, .inl (T 0, 60, .inl (Z 7))), (q 13, .inl (T 0, 8, .inl (rtE cd L 0 ((Z 13)) ((Z 15))).1.2.2)), (q 15, .inl (T 0, 3, .inl (rtE cd L 0 ((Z 13)) ((Z 15))).2.1.2))] := hD
      subst hQ
      have e_10 : (nI 1) = nI 1 := (by first | rfl | simp [bI, c_2, c_8])
      have e_11 : nI (rtE cd L 0 ((Z 13)) ((Z 15))).1.1 = nI (rtE cd L 0 (Z 13) (Z 15)).1.1 := (by first | rfl | simp [bI, c_2, c_8])
      have e_12 : (rtE cd L 0 ((Z 13)) ((Z 15))).1.2.2 = (rtE cd L 0 (Z 13) (Z 15)).1.2.2 := (by first | rfl | simp [bI, c_2, c_8])
      have e_13 : nI (rtE cd L 0 ((Z 13)) ((Z 15))).1.2.1 = nI (rtE cd L 0 (Z 13) (Z 15)).1.2.1 := (by first | rfl | simp [bI, c_2, c_8])
      have e_14 : (rtE cd L 0 ((Z 13)) ((Z 15))).2.1.2 = (rtE cd L 0 (Z 13) (Z 15)).2.1.2 := (by first | rfl | simp [bI, c_2, c_8])
      rw [e_13, e_11, e_12, e_14, e_10] at hP hD
      have hP9 : va_P G vwCl (oX8 T q (sa (sa (sc (sc (sc Z 0 (nI 1)) 8 (nI (rtE cd L 0 (Z 13) (Z 15)).1.1)) 13 (nI (rtE cd L 0 (Z 13) (Z 15)).1.2.1)) 13 (rtE cd L 0 (Z 13) (Z 15)).1.2.2) 15 (rtE cd L 0 (Z 13) (Z 15)).2.1.2) g) H := hP
      have hD9 : va_D A (oX8 T q (sa (sa (sc (sc (sc Z 0 (nI 1)) 8 (nI (rtE cd L 0 (Z 13) (Z 15)).1.1)) 13 (nI (rtE cd L 0 (Z 13) (Z 15)).1.2.1)) 13 (rtE cd L 0 (Z 13) (Z 15)).1.2.2) 15 (rtE cd L 0 (Z 13) (Z 15)).2.1.2) g) := hD
      exact e_rwi hx hb hr hlocks hS (by first | rfl | simp [bI, c_2, c_8]) hP9 hD9 dX8_decode_33
    · skip
      refine lv_iload_n hx hb dX8_decode_19 rfl (lv_at hl 2 rfl) ?_
      refine n_iconst hx hb 0 dX8_decode_20 (by decide) ?_
      refine n_iconst hx hb 1 dX8_decode_21 (by decide) ?_
      refine k_roS (As := [.int y, .int (nI 0), .int (nI 1)]) (rest := []) (wc := []) (d := 0) (v := bI (pWi y (nI 0) (nI 1))) cx (c_X8_within l G T A y (nI 0) (nI 1) ) (va_cwS 3 hts gX8_decode_X8_within rfl rfl rfl (by decide +kernel) ⟨Nat.le_of_ble_eq_true rfl, Nat.le_of_ble_eq_true rfl⟩) (hP.sub (ws' := []) [] rfl) hK (hE.kept hS.2.1) rfl hl.1 rfl (Nat.le_of_ble_eq_true rfl) dX8_decode_22 ⟨Nat.le_of_ble_eq_true rfl, Nat.le_of_ble_eq_true rfl⟩ ?_
      refine b_if_ne (b := pWi y (nI 0) (nI 1)) (tgt := 34) hx hb dX8_decode_25 (by decide) (fun c_15 => by exfalso; unfold tuB at hno; simp [c_2, c_9, c_15] at hno) (fun c_16 => ?_)
      refine lv_aload_n hx hb dX8_decode_28 rfl (lv_at hl 0 rfl) ?_
      refine n_iconst hx hb 1 dX8_decode_29 (by decide) ?_
      refine k_rwV (As := [.int (nI 1)]) (rest := []) (wc := oX8 T q (sa (sa (sc (sc (sc Z 0 (nI 0)) 8 (nI (rtE cd L 0 ((Z 13)) ((Z 15))).1.1)) 13 (nI (rtE cd L 0 ((Z 13)) ((Z 15))).1.2.1)) 13 (rtE cd L 0 ((Z 13)) ((Z 15))).1.2.2) 15 (rtE cd L 0 ((Z 13)) ((Z 15))).2.1.2) g) (wr := []) (w1 := oX8 T q (sc (sa (sa (sc (sc (sc Z 0 (nI 0)) 8 (nI (rtE cd L 0 ((Z 13)) ((Z 15))).1.1)) 13 (nI (rtE cd L 0 ((Z 13)) ((Z 15))).1.2.1)) 13 (rtE cd L 0 ((Z 13)) ((Z 15))).1.2.2) 15 (rtE cd L 0 ((Z 13)) ((Z 15))).2.1.2) 0 (nI 1)) g) (d := 0) (mc := 0) (ms := 0) (v := nI 0) (isC := [0, 1, 2, 3, 4, 5, 6]) (isR := []) cx (c_X8_fails l G T H.size q (sa (sa (sc (sc (sc Z 0 (nI 0)) 8 (nI (rtE cd L 0 ((Z 13)) ((Z 15))).1.1)) 13 (nI (rtE cd L 0 ((Z 13)) ((Z 15))).1.2.1)) 13 (rtE cd L 0 ((Z 13)) ((Z 15))).1.2.2) 15 (rtE cd L 0 ((Z 13)) ((Z 15))).2.1.2) g (nI 1) ) (cwV 1 hts gX8_decode_X8_fails rfl rfl rfl (by decide +kernel) ⟨Nat.le_of_ble_eq_true rfl, Nat.le_of_ble_eq_true rfl⟩) ⟨hP, hD, hS, hA, hE, hK, rfl, rfl, rfl, rfl, by decide⟩ (va_recv hK hP (ci := 8) (q0 := 0) rfl rfl) rfl hl.1 rfl (Nat.le_of_ble_eq_true rfl) dX8_decode_30 ⟨Nat.le_of_ble_eq_true rfl, Nat.le_of_ble_eq_true rfl⟩ (fun H locs hP hD hS hz => ?_)
      have hP : va_P G vwCl [(q 0, .inr (8, [.int (nI 1), .ref (q 2), .ref (q 3), .int (Z 0 3), .ref (q 5), .int (Z 0 5), .ref (q 7), .int (Z 0 7), .int (nI (rtE cd L 0 ((Z 13)) ((Z 15))).1.1), .int (Z 0 9), .int (Z 0 10), .int (Z 0 11), .ref (q 13), .int (nI (rtE cd L 0 ((Z 13)) ((Z 15))).1.2.1), .ref (q 15), .long g])), (q 2, .inl (T 0, 267, .inl (Z 2))), (q 3, .inl (T 0, 1602, .inl (Z 3))), (q 5, .inl (T 0, 267, .inl (Z 5))), (q 7, .inl (T 0, 60, .inl (Z 7))), (q 13, .inl (T 0, 8, .inl (rtE cd L 0 ((Z 13)) ((Z 15))).1.2.2)), (q 15, .inl (T 0, 3, .inl (rtE cd L 0 ((Z 13)) ((Z 15))).2.1.2))] H := hP
      have hD : va_D A [(q 0, .inr (8, [.int (nI 1), .ref (q 2), .ref (q 3), .int (Z 0 3), .ref (q 5), .int (Z 0 5), .ref (q 7), .int (Z 0 7), .int (nI (rtE cd L 0 ((Z 13)) ((Z 15))).1.1), .int (Z 0 9), .int (Z 0 10), .int (Z 0 11), .ref (q 13), .int (nI (rtE cd L 0 ((Z 13)) ((Z 15))).1.2.1), .ref (q 15), .long g])), (q 2, .inl (T 0, 267, .inl (Z 2))), (q 3, .inl (T 0, 1602, .inl (Z 3))), (q 5, .inl (T 0, 267, .inl (Z 5))), (q 7, .inl (T 0, 60, .inl (Z 7))), (q 13, .inl (T 0, 8, .inl (rtE cd L 0 ((Z 13)) ((Z 15))).1.2.2)), (q 15, .inl (T 0, 3, .inl (rtE cd L 0 ((Z 13)) ((Z 15))).2.1.2))] := hD
      subst hQ
      have e_17 : (nI 1) = nI 1 := (by first | rfl | simp [bI, c_2, c_9, c_16])
      have e_18 : nI (rtE cd L 0 ((Z 13)) ((Z 15))).1.1 = nI (rtE cd L 0 (Z 13) (Z 15)).1.1 := (by first | rfl | simp [bI, c_2, c_9, c_16])
      have e_19 : (rtE cd L 0 ((Z 13)) ((Z 15))).1.2.2 = (rtE cd L 0 (Z 13) (Z 15)).1.2.2 := (by first | rfl | simp [bI, c_2, c_9, c_16])
      have e_20 : nI (rtE cd L 0 ((Z 13)) ((Z 15))).1.2.1 = nI (rtE cd L 0 (Z 13) (Z 15)).1.2.1 := (by first | rfl | simp [bI, c_2, c_9, c_16])
      have e_21 : (rtE cd L 0 ((Z 13)) ((Z 15))).2.1.2 = (rtE cd L 0 (Z 13) (Z 15)).2.1.2 := (by first | rfl | simp [bI, c_2, c_9, c_16])
      rw [e_20, e_18, e_19, e_21, e_17] at hP hD
      have hP9 : va_P G vwCl (oX8 T q (sa (sa (sc (sc (sc Z 0 (nI 1)) 8 (nI (rtE cd L 0 (Z 13) (Z 15)).1.1)) 13 (nI (rtE cd L 0 (Z 13) (Z 15)).1.2.1)) 13 (rtE cd L 0 (Z 13) (Z 15)).1.2.2) 15 (rtE cd L 0 (Z 13) (Z 15)).2.1.2) g) H := hP
      have hD9 : va_D A (oX8 T q (sa (sa (sc (sc (sc Z 0 (nI 1)) 8 (nI (rtE cd L 0 (Z 13) (Z 15)).1.1)) 13 (nI (rtE cd L 0 (Z 13) (Z 15)).1.2.1)) 13 (rtE cd L 0 (Z 13) (Z 15)).1.2.2) 15 (rtE cd L 0 (Z 13) (Z 15)).2.1.2) g) := hD
      exact e_rwi hx hb hr hlocks hS (by first | rfl | simp [bI, c_2, c_9, c_16]) hP9 hD9 dX8_decode_33
set_option maxHeartbeats 4000000 in
set_option maxRecDepth 100000 in
theorem c_X8_decode (l : Launch) (G : va_G) (T : Nat → ClassId) (sz : Nat) (q : Nat → Nat) (Z : Nat → Nat → Int32) (g : Int64) (L : Nat) (cd : Nat → Nat) (x : Nat) (w : Nat) (hle : Z 0 7 = nI L) (hcd : ∀ i : Nat, i < L → Z 7 i = nI (cd i)) (hc127 : ∀ i : Nat, i < L → cd i < 127) (hL60 : L ≤ 60) (hyes : tuB cd L Z = true) (hx7 : x < 7) (hw : w < 2) : RWi l yX8_decode wsX8_decode 6 0 0 G T sz (oX8 T q Z g) [.ref (q 0), .int (nI x), .int (nI w)] (mDe (tuZ cd L Z) (tuN cd L Z) (nI x)) (oX8 T q (sa (sa (sc (sc (sc Z 0 (nI 0)) 8 (nI (rtE cd L 0 (Z 13) (Z 15)).1.1)) 13 (nI (rtE cd L 0 (Z 13) (Z 15)).1.2.1)) 13 (rtE cd L 0 (Z 13) (Z 15)).1.2.2) 15 (rtE cd L 0 (Z 13) (Z 15)).2.1.2) g) := by
  refine Met.ofW (cc := cX8_decode) (maxL := 3) (ret := (some .int)) (by decide) rfl ?_
  intro p e s m args below meth c s₁ B hml hv
  obtain ⟨ha, hsz, hP, hK, hD0, hE0⟩ := hv
  have hx := B.exec
  have hb := B.bytes
  have hr := B.returns
  have hlocks := B.notSynchronized
  have hts := atoms_spec (ws := wsX8_decode) B.pre
  have hown : s.vm.findClass RX8 = some m.cls := findClass_of_methodNamed B.named
  have cx : CallFix p m c cX8_decode 3 s args wsX8_decode RX8 := ⟨hx, hb, hml, hown, hts⟩
  subst hsz
  have hD := hD0.self (sz := s.heap.size)
  generalize hAe : va_A (oX8 T q Z g) s.heap.size = A at hD hE0 ⊢
  have hE : gE A s s.heap := hE0
  have hA : ∀ q : Nat, s.heap.size ≤ q → A q := fun q h => by rw [← hAe]; exact Or.inr h
  have hS : va_S A s.heap s.heap [] := va_S.rf
  refine w_entry ha (Nat.le_of_ble_eq_true rfl) (fun ls hl => ?_)
  refine w_q (fun Q0 hQ => ?_)
  have lk28 := hts (.fieldLink RX8 28 "WhistleTunesModel" "thrown" "I") (by decide +kernel)
  have hinX8 : ∀ w ∈ wsX80, w ∈ wsX8_decode := by decide +kernel
  have hl : lv_has ls 3 [(0, .ref (q 0)), (1, .int (nI x)), (2, .int (nI w))] := hl
  have hP : va_P G vwCl [(q 0, .inr (8, [.int (Z 0 0), .ref (q 2), .ref (q 3), .int (Z 0 3), .ref (q 5), .int (Z 0 5), .ref (q 7), .int (Z 0 7), .int (Z 0 8), .int (Z 0 9), .int (Z 0 10), .int (Z 0 11), .ref (q 13), .int (Z 0 13), .ref (q 15), .long g])), (q 2, .inl (T 0, 267, .inl (Z 2))), (q 3, .inl (T 0, 1602, .inl (Z 3))), (q 5, .inl (T 0, 267, .inl (Z 5))), (q 7, .inl (T 0, 60, .inl (Z 7))), (q 13, .inl (T 0, 8, .inl (Z 13))), (q 15, .inl (T 0, 3, .inl (Z 15)))] s.heap := hP
  have hD : va_D A [(q 0, .inr (8, [.int (Z 0 0), .ref (q 2), .ref (q 3), .int (Z 0 3), .ref (q 5), .int (Z 0 5), .ref (q 7), .int (Z 0 7), .int (Z 0 8), .int (Z 0 9), .int (Z 0 10), .int (Z 0 11), .ref (q 13), .int (Z 0 13), .ref (q 15), .long g])), (q 2, .inl (T 0, 267, .inl (Z 2))), (q 3, .inl (T 0, 1602, .inl (Z 3))), (q 5, .inl (T 0, 267, .inl (Z 5))), (q 7, .inl (T 0, 60, .inl (Z 7))), (q 13, .inl (T 0, 8, .inl (Z 13))), (q 15, .inl (T 0, 3, .inl (Z 15)))] := hD
  skip
  have htn := tuN_le cd L Z
  have hta := tuA_le cd L Z
  unfold tuN at htn
  refine w_h (fun H locs hHe hLe => ?_)
  have hP : va_P G vwCl [(q 0, .inr (8, [.int (Z 0 0), .ref (q 2), .ref (q 3), .int (Z 0 3), .ref (q 5), .int (Z 0 5), .ref (q 7), .int (Z 0 7), .int (Z 0 8), .int (Z 0 9), .int (Z 0 10), .int (Z 0 11), .ref (q 13), .int (Z 0 13), .ref (q 15), .long g])), (q 2, .inl (T 0, 267, .inl (Z 2))), (q 3, .inl (T 0, 1602, .inl (Z 3))), (q 5, .inl (T 0, 267, .inl (Z 5))), (q 7, .inl (T 0, 60, .inl (Z 7))), (q 13, .inl (T 0, 8, .inl (Z 13))), (q 15, .inl (T 0, 3, .inl (Z 15)))] H := by rw [hHe]; exact hP
  have hS : va_S A s.heap H locs := by rw [hHe, hLe]; exact hS
  refine lv_aload_n hx hb dX8_decode_0 rfl (lv_at hl 0 rfl) ?_
  refine n_iconst hx hb 0 dX8_decode_1 (by decide) ?_
  refine va_put (D := G) (ci := 8) (v := .int (nI 0)) (ty := .int) (C := RX8) (T := TX8) (N := 16) hx hb hts hinX8 tyX8 tyX8_ok nmX8 hown hK hP hD hS 0 rfl rfl 0 (by decide) lk28 (fun _ h9 => h9) rfl (by decide +kernel) rfl rfl (Nat.le_of_ble_eq_true rfl) dX8_decode_2 (fun H locs hP hD hS => ?_)
  have hP : va_P G vwCl [(q 0, .inr (8, [.int (nI 0), .ref (q 2), .ref (q 3), .int (Z 0 3), .ref (q 5), .int (Z 0 5), .ref (q 7), .int (Z 0 7), .int (Z 0 8), .int (Z 0 9), .int (Z 0 10), .int (Z 0 11), .ref (q 13), .int (Z 0 13), .ref (q 15), .long g])), (q 2, .inl (T 0, 267, .inl (Z 2))), (q 3, .inl (T 0, 1602, .inl (Z 3))), (q 5, .inl (T 0, 267, .inl (Z 5))), (q 7, .inl (T 0, 60, .inl (Z 7))), (q 13, .inl (T 0, 8, .inl (Z 13))), (q 15, .inl (T 0, 3, .inl (Z 15)))] H := hP
  have hD : va_D A [(q 0, .inr (8, [.int (nI 0), .ref (q 2), .ref (q 3), .int (Z 0 3), .ref (q 5), .int (Z 0 5), .ref (q 7), .int (Z 0 7), .int (Z 0 8), .int (Z 0 9), .int (Z 0 10), .int (Z 0 11), .ref (q 13), .int (Z 0 13), .ref (q 15), .long g])), (q 2, .inl (T 0, 267, .inl (Z 2))), (q 3, .inl (T 0, 1602, .inl (Z 3))), (q 5, .inl (T 0, 267, .inl (Z 5))), (q 7, .inl (T 0, 60, .inl (Z 7))), (q 13, .inl (T 0, 8, .inl (Z 13))), (q 15, .inl (T 0, 3, .inl (Z 15)))] := hD
  refine lv_aload_n hx hb dX8_decode_5 rfl (lv_at hl 0 rfl) ?_
  refine k_rwV (As := []) (rest := []) (wc := oX8 T q (sc Z 0 (nI 0)) g) (wr := []) (w1 := oX8 T q (sa (sa (sc (sc (sc Z 0 (nI 0)) 8 (nI (rtE cd L 0 ((sc Z 0 (nI 0)) 13) ((sc Z 0 (nI 0)) 15)).1.1)) 13 (nI (rtE cd L 0 ((sc Z 0 (nI 0)) 13) ((sc Z 0 (nI 0)) 15)).1.2.1)) 13 (rtE cd L 0 ((sc Z 0 (nI 0)) 13) ((sc Z 0 (nI 0)) 15)).1.2.2) 15 (rtE cd L 0 ((sc Z 0 (nI 0)) 13) ((sc Z 0 (nI 0)) 15)).2.1.2) g) (d := 3) (mc := 0) (ms := 0) (v := bI (rtB (rtE cd L 0 ((Z 13)) ((Z 15))) && decide ((rtE cd L 0 ((Z 13)) ((Z 15))).1.1 = L))) (isC := [0, 1, 2, 3, 4, 5, 6]) (isR := []) cx (c_X8_isTuneText l G T H.size q (sc Z 0 (nI 0)) g L cd (by first | assumption | rfl | omega) (by first | assumption | rfl | omega) (by omega) (by omega)) (cwV 0 hts gX8_decode_X8_isTuneText rfl rfl rfl (by decide +kernel) ⟨Nat.le_of_ble_eq_true rfl, Nat.le_of_ble_eq_true rfl⟩) ⟨hP, hD, hS, hA, hE, hK, rfl, rfl, rfl, rfl, by decide⟩ (va_recv hK hP (ci := 8) (q0 := 0) rfl rfl) rfl hl.1 rfl (Nat.le_of_ble_eq_true rfl) dX8_decode_6 ⟨Nat.le_of_ble_eq_true rfl, Nat.le_of_ble_eq_true rfl⟩ (fun H locs hP hD hS hz => ?_)
  have hP : va_P G vwCl [(q 0, .inr (8, [.int (nI 0), .ref (q 2), .ref (q 3), .int (Z 0 3), .ref (q 5), .int (Z 0 5), .ref (q 7), .int (Z 0 7), .int (nI (rtE cd L 0 ((Z 13)) ((Z 15))).1.1), .int (Z 0 9), .int (Z 0 10), .int (Z 0 11), .ref (q 13), .int (nI (rtE cd L 0 ((Z 13)) ((Z 15))).1.2.1), .ref (q 15), .long g])), (q 2, .inl (T 0, 267, .inl (Z 2))), (q 3, .inl (T 0, 1602, .inl (Z 3))), (q 5, .inl (T 0, 267, .inl (Z 5))), (q 7, .inl (T 0, 60, .inl (Z 7))), (q 13, .inl (T 0, 8, .inl (rtE cd L 0 ((Z 13)) ((Z 15))).1.2.2)), (q 15, .inl (T 0, 3, .inl (rtE cd L 0 ((Z 13)) ((Z 15))).2.1.2))] H := hP
  have hD : va_D A [(q 0, .inr (8, [.int (nI 0), .ref (q 2), .ref (q 3), .int (Z 0 3), .ref (q 5), .int (Z 0 5), .ref (q 7), .int (Z 0 7), .int (nI (rtE cd L 0 ((Z 13)) ((Z 15))).1.1), .int (Z 0 9), .int (Z 0 10), .int (Z 0 11), .ref (q 13), .int (nI (rtE cd L 0 ((Z 13)) ((Z 15))).1.2.1), .ref (q 15), .long g])), (q 2, .inl (T 0, 267, .inl (Z 2))), (q 3, .inl (T 0, 1602, .inl (Z 3))), (q 5, .inl (T 0, 267, .inl (Z 5))), (q 7, .inl (T 0, 60, .inl (Z 7))), (q 13, .inl (T 0, 8, .inl (rtE cd L 0 ((Z 13)) ((Z 15))).1.2.2)), (q 15, .inl (T 0, 3, .inl (rtE cd L 0 ((Z 13)) ((Z 15))).2.1.2))] := hD
  refine b_if_eq (b := rtB (rtE cd L 0 ((Z 13)) ((Z 15))) && decide ((rtE cd L 0 ((Z 13)) ((Z 15))).1.1 = L)) (tgt := 28) hx hb dX8_decode_9 (by decide) (fun c_1 => by exfalso; exact absurd hyes (by unfold tuB; rw [c_1]; decide)) (fun c_2 => ?_)
  refine lv_iload_n hx hb dX8_decode_12 rfl (lv_at hl 1 rfl) ?_
  refine k_roS (As := [.int (nI x)]) (rest := []) (wc := []) (d := 1) (v := bI (pWi (nI x) (nI 0) (nI 6))) cx (c_X8_isKey l G T A (nI x) ) (va_cwS 1 hts gX8_decode_X8_isKey rfl rfl rfl (by decide +kernel) ⟨Nat.le_of_ble_eq_true rfl, Nat.le_of_ble_eq_true rfl⟩) (hP.sub (ws' := []) [] rfl) hK (hE.kept hS.2.1) rfl hl.1 rfl (Nat.le_of_ble_eq_true rfl) dX8_decode_13 ⟨Nat.le_of_ble_eq_true rfl, Nat.le_of_ble_eq_true rfl⟩ ?_
  refine b_if_eq (b := pWi (nI x) (nI 0) (nI 6)) (tgt := 28) hx hb dX8_decode_16 (by decide) (fun c_3 => by exfalso; rw [pWi_n (by omega) (by omega) (by decide)] at c_3; cases c_3) (fun c_4 => ?_)
  refine lv_iload_n hx hb dX8_decode_19 rfl (lv_at hl 2 rfl) ?_
  refine n_iconst hx hb 0 dX8_decode_20 (by decide) ?_
  refine n_iconst hx hb 1 dX8_decode_21 (by decide) ?_
  refine k_roS (As := [.int (nI w), .int (nI 0), .int (nI 1)]) (rest := []) (wc := []) (d := 0) (v := bI (pWi (nI w) (nI 0) (nI 1))) cx (c_X8_within l G T A (nI w) (nI 0) (nI 1) ) (va_cwS 3 hts gX8_decode_X8_within rfl rfl rfl (by decide +kernel) ⟨Nat.le_of_ble_eq_true rfl, Nat.le_of_ble_eq_true rfl⟩) (hP.sub (ws' := []) [] rfl) hK (hE.kept hS.2.1) rfl hl.1 rfl (Nat.le_of_ble_eq_true rfl) dX8_decode_22 ⟨Nat.le_of_ble_eq_true rfl, Nat.le_of_ble_eq_true rfl⟩ ?_
  refine b_if_ne (b := pWi (nI w) (nI 0) (nI 1)) (tgt := 34) hx hb dX8_decode_25 (by decide) (fun c_5 => ?_) (fun c_6 => by exfalso; rw [pWi_n (by omega) (by omega) (by decide)] at c_6; cases c_6)
  refine lv_aload_n hx hb dX8_decode_34 rfl (lv_at hl 0 rfl) ?_
  refine lv_iload_n hx hb dX8_decode_35 rfl (lv_at hl 1 rfl) ?_
  refine k_roV (As := [.int (nI x)]) (rest := []) (wc := oX8 T q (sa (sa (sc (sc (sc Z 0 (nI 0)) 8 (nI (rtE cd L 0 ((Z 13)) ((Z 15))).1.1)) 13 (nI (rtE cd L 0 ((Z 13)) ((Z 15))).1.2.1)) 13 (rtE cd L 0 ((Z 13)) ((Z 15))).1.2.2) 15 (rtE cd L 0 ((Z 13)) ((Z 15))).2.1.2) g) (d := 3) (v := mDe (sa (sa (sc (sc (sc Z 0 (nI 0)) 8 (nI (rtE cd L 0 ((Z 13)) ((Z 15))).1.1)) 13 (nI (rtE cd L 0 ((Z 13)) ((Z 15))).1.2.1)) 13 (rtE cd L 0 ((Z 13)) ((Z 15))).1.2.2) 15 (rtE cd L 0 ((Z 13)) ((Z 15))).2.1.2) (rtE cd L 0 ((Z 13)) ((Z 15))).1.2.1 (nI x)) cx (c_X8_decoded l G T A q (sa (sa (sc (sc (sc Z 0 (nI 0)) 8 (nI (rtE cd L 0 ((Z 13)) ((Z 15))).1.1)) 13 (nI (rtE cd L 0 ((Z 13)) ((Z 15))).1.2.1)) 13 (rtE cd L 0 ((Z 13)) ((Z 15))).1.2.2) 15 (rtE cd L 0 ((Z 13)) ((Z 15))).2.1.2) g (nI x) (rtE cd L 0 ((Z 13)) ((Z 15))).1.2.1 (by first | assumption | rfl | omega) (by omega)) (cwV 1 hts gX8_decode_X8_decoded rfl rfl rfl (by decide +kernel) ⟨Nat.le_of_ble_eq_true rfl, Nat.le_of_ble_eq_true rfl⟩) hP hK (hE.kept hS.2.1) (va_recv hK hP (ci := 8) (q0 := 0) rfl rfl) rfl hl.1 rfl (Nat.le_of_ble_eq_true rfl) dX8_decode_36 ⟨Nat.le_of_ble_eq_true rfl, Nat.le_of_ble_eq_true rfl⟩ ?_
  subst hQ
  have e_7 : nI (rtE cd L 0 ((Z 13)) ((Z 15))).1.1 = nI (rtE cd L 0 (Z 13) (Z 15)).1.1 := (by first | rfl | simp [bI, c_2, c_4, c_5])
  have e_8 : (rtE cd L 0 ((Z 13)) ((Z 15))).1.2.2 = (rtE cd L 0 (Z 13) (Z 15)).1.2.2 := (by first | rfl | simp [bI, c_2, c_4, c_5])
  have e_9 : nI (rtE cd L 0 ((Z 13)) ((Z 15))).1.2.1 = nI (rtE cd L 0 (Z 13) (Z 15)).1.2.1 := (by first | rfl | simp [bI, c_2, c_4, c_5])
  have e_10 : (rtE cd L 0 ((Z 13)) ((Z 15))).2.1.2 = (rtE cd L 0 (Z 13) (Z 15)).2.1.2 := (by first | rfl | simp [bI, c_2, c_4, c_5])
  rw [e_9, e_7, e_8, e_10] at hP hD
  have hP9 : va_P G vwCl (oX8 T q (sa (sa (sc (sc (sc Z 0 (nI 0)) 8 (nI (rtE cd L 0 (Z 13) (Z 15)).1.1)) 13 (nI (rtE cd L 0 (Z 13) (Z 15)).1.2.1)) 13 (rtE cd L 0 (Z 13) (Z 15)).1.2.2) 15 (rtE cd L 0 (Z 13) (Z 15)).2.1.2) g) H := hP
  have hD9 : va_D A (oX8 T q (sa (sa (sc (sc (sc Z 0 (nI 0)) 8 (nI (rtE cd L 0 (Z 13) (Z 15)).1.1)) 13 (nI (rtE cd L 0 (Z 13) (Z 15)).1.2.1)) 13 (rtE cd L 0 (Z 13) (Z 15)).1.2.2) 15 (rtE cd L 0 (Z 13) (Z 15)).2.1.2) g) := hD
  exact e_rwi hx hb hr hlocks hS rfl hP9 hD9 dX8_decode_39
