/-! the reference's writing methods: what they do to its content (pure), then their contracts (printed by wip/whole/s31.py) -/
def mCp (f g : Nat → Int32) (d1 d2 : Nat) : Nat → (Nat → Int32) | 0 => g | k + 1 => upd (mCp f g d1 d2 k) (d1 + k) (f (d2 + k))
def mSh0 (f : Nat → Int32) : Nat → (Nat → Int32) | 0 => f | k + 1 => upd (mSh0 f k) k (mSh0 f k (k + 267))
/-- saved, n of them, behind save() -/
def mSvF (f st : Nat → Int32) (n : Nat) : Nat → Int32 := if n = 6 then mCp st (mSh0 f 1335) (5 * 267) 0 267 else mCp st f (n * 267) 0 267
def mSvN (n : Nat) : Nat := if n = 6 then 6 else n + 1
theorem mSvN_le {n : Nat} (h : n ≤ 6) : mSvN n ≤ 6 := by unfold mSvN; split <;> omega
def mAdT (t : Nat → Int32) (n : Nat) (x : Int32) : Nat → Int32 := if n < 8 then upd t n x else t
def mAdN (n : Nat) : Nat := if 8 < n then n else n + 1
def mTcF (st : Nat → Int32) (t : Nat → Int32) (m n : Nat) : Nat → (Nat → Int32) | 0 => upd st (47 + 11 * m) (nI n) | k + 1 => upd (mTcF st t m n k) (47 + 11 * m + (3 + k)) (if k < n then t k else nI 0)
def mRiB (st : Nat → Int32) : Int32 := if iRem (st 0) (nI 7) = 0 then nI 0 else nI 1
def mRiF (st : Nat → Int32) : Nat → (Nat → Int32) | 0 => upd st 0 (st 0 + nI 1) | k + 1 => upd (upd (mRiF st k) (14 + 5 * k + 2) (nI 0)) (14 + 5 * k + 1) ((upd (mRiF st k) (14 + 5 * k + 2) (nI 0)) (14 + 5 * k + 1) * mRiB (upd (mRiF st k) (14 + 5 * k + 2) (nI 0)))

set_option maxHeartbeats 4000000 in
set_option maxRecDepth 100000 in
theorem c_X8_fails (l : Launch) (G : va_G) (T : Nat → ClassId) (sz : Nat) (q : Nat → Nat) (Z : Nat → Nat → Int32) (g : Int64) (x : Int32) : RWi l yX8_fails wsX8_fails 0 0 0 G T sz (oX8 T q Z g) [.ref (q 0), .int x] (nI 0) (oX8 T q (sc Z 0 x) g) := by
  refine Met.ofW (cc := cX8_fails) (maxL := 2) (ret := (some .int)) (by decide) rfl ?_
  intro p e s m args below meth c s₁ B hml hv
  obtain ⟨ha, hsz, hP, hK, hD0, hE0⟩ := hv
  have hx := B.exec
  have hb := B.bytes
  have hr := B.returns
  have hlocks := B.notSynchronized
  have hts := atoms_spec (ws := wsX8_fails) B.pre
  have hown : s.vm.findClass RX8 = some m.cls := findClass_of_methodNamed B.named
  have cx : CallFix p m c cX8_fails 2 s args wsX8_fails RX8 := ⟨hx, hb, hml, hown, hts⟩
  subst hsz
  have hD := hD0.self (sz := s.heap.size)
  generalize hAe : va_A (oX8 T q Z g) s.heap.size = A at hD hE0 ⊢
  have hE : gE A s s.heap := hE0
  have hA : ∀ q : Nat, s.heap.size ≤ q → A q := fun q h => by rw [← hAe]; exact Or.inr h
  have hS : va_S A s.heap s.heap [] := va_S.rf
  refine w_entry ha (Nat.le_of_ble_eq_true rfl) (fun ls hl => ?_)
  refine w_q (fun Q0 hQ => ?_)
  have lk28 := hts (.fieldLink RX8 28 "WhistleTunesModel" "thrown" "I") (by decide +kernel)
  have hinX8 : ∀ w ∈ wsX80, w ∈ wsX8_fails := by decide +kernel
  have hl : lv_has ls 2 [(0, .ref (q 0)), (1, .int x)] := hl
  have hP : va_P G vwCl [(q 0, .inr (8, [.int (Z 0 0), .ref (q 2), .ref (q 3), .int (Z 0 3), .ref (q 5), .int (Z 0 5), .ref (q 7), .int (Z 0 7), .int (Z 0 8), .int (Z 0 9), .int (Z 0 10), .int (Z 0 11), .ref (q 13), .int (Z 0 13), .ref (q 15), .long g])), (q 2, .inl (T 0, 267, .inl (Z 2))), (q 3, .inl (T 0, 1602, .inl (Z 3))), (q 5, .inl (T 0, 267, .inl (Z 5))), (q 7, .inl (T 0, 60, .inl (Z 7))), (q 13, .inl (T 0, 8, .inl (Z 13))), (q 15, .inl (T 0, 3, .inl (Z 15)))] s.heap := hP
  have hD : va_D A [(q 0, .inr (8, [.int (Z 0 0), .ref (q 2), .ref (q 3), .int (Z 0 3), .ref (q 5), .int (Z 0 5), .ref (q 7), .int (Z 0 7), .int (Z 0 8), .int (Z 0 9), .int (Z 0 10), .int (Z 0 11), .ref (q 13), .int (Z 0 13), .ref (q 15), .long g])), (q 2, .inl (T 0, 267, .inl (Z 2))), (q 3, .inl (T 0, 1602, .inl (Z 3))), (q 5, .inl (T 0, 267, .inl (Z 5))), (q 7, .inl (T 0, 60, .inl (Z 7))), (q 13, .inl (T 0, 8, .inl (Z 13))), (q 15, .inl (T 0, 3, .inl (Z 15)))] := hD
  skip
  refine w_h (fun H locs hHe hLe => ?_)
  have hP : va_P G vwCl [(q 0, .inr (8, [.int (Z 0 0), .ref (q 2), .ref (q 3), .int (Z 0 3), .ref (q 5), .int (Z 0 5), .ref (q 7), .int (Z 0 7), .int (Z 0 8), .int (Z 0 9), .int (Z 0 10), .int (Z 0 11), .ref (q 13), .int (Z 0 13), .ref (q 15), .long g])), (q 2, .inl (T 0, 267, .inl (Z 2))), (q 3, .inl (T 0, 1602, .inl (Z 3))), (q 5, .inl (T 0, 267, .inl (Z 5))), (q 7, .inl (T 0, 60, .inl (Z 7))), (q 13, .inl (T 0, 8, .inl (Z 13))), (q 15, .inl (T 0, 3, .inl (Z 15)))] H := by rw [hHe]; exact hP
  have hS : va_S A s.heap H locs := by rw [hHe, hLe]; exact hS
  refine lv_aload_n hx hb dX8_fails_0 rfl (lv_at hl 0 rfl) ?_
  refine lv_iload_n hx hb dX8_fails_1 rfl (lv_at hl 1 rfl) ?_
  refine va_put (D := G) (ci := 8) (v := .int x) (ty := .int) (C := RX8) (T := TX8) (N := 16) hx hb hts hinX8 tyX8 tyX8_ok nmX8 hown hK hP hD hS 0 rfl rfl 0 (by decide) lk28 (fun _ h9 => h9) rfl (by decide +kernel) rfl rfl (Nat.le_of_ble_eq_true rfl) dX8_fails_2 (fun H locs hP hD hS => ?_)
  have hP : va_P G vwCl [(q 0, .inr (8, [.int x, .ref (q 2), .ref (q 3), .int (Z 0 3), .ref (q 5), .int (Z 0 5), .ref (q 7), .int (Z 0 7), .int (Z 0 8), .int (Z 0 9), .int (Z 0 10), .int (Z 0 11), .ref (q 13), .int (Z 0 13), .ref (q 15), .long g])), (q 2, .inl (T 0, 267, .inl (Z 2))), (q 3, .inl (T 0, 1602, .inl (Z 3))), (q 5, .inl (T 0, 267, .inl (Z 5))), (q 7, .inl (T 0, 60, .inl (Z 7))), (q 13, .inl (T 0, 8, .inl (Z 13))), (q 15, .inl (T 0, 3, .inl (Z 15)))] H := hP
  have hD : va_D A [(q 0, .inr (8, [.int x, .ref (q 2), .ref (q 3), .int (Z 0 3), .ref (q 5), .int (Z 0 5), .ref (q 7), .int (Z 0 7), .int (Z 0 8), .int (Z 0 9), .int (Z 0 10), .int (Z 0 11), .ref (q 13), .int (Z 0 13), .ref (q 15), .long g])), (q 2, .inl (T 0, 267, .inl (Z 2))), (q 3, .inl (T 0, 1602, .inl (Z 3))), (q 5, .inl (T 0, 267, .inl (Z 5))), (q 7, .inl (T 0, 60, .inl (Z 7))), (q 13, .inl (T 0, 8, .inl (Z 13))), (q 15, .inl (T 0, 3, .inl (Z 15)))] := hD
  refine n_iconst hx hb 0 dX8_fails_5 (by decide) ?_
  subst hQ
  have hP9 : va_P G vwCl (oX8 T q (sc Z 0 x) g) H := hP
  have hD9 : va_D A (oX8 T q (sc Z 0 x) g) := hD
  exact e_rwi hx hb hr hlocks hS (by first | rfl | simp [bI]) hP9 hD9 dX8_fails_6
set_option maxHeartbeats 4000000 in
set_option maxRecDepth 100000 in
theorem c_X8_addTo (l : Launch) (G : va_G) (T : Nat → ClassId) (sz : Nat) (q : Nat → Nat) (Z : Nat → Nat → Int32) (g : Int64) (r : Nat) (w : Nat) (x : Int32) (hr6 : r < 6) (hw5 : w < 5) : RWv l yX8_addTo wsX8_addTo 0 0 0 G T sz (oX8 T q Z g) [.ref (q 0), .int (nI r), .int (nI w), .int x] (oX8 T q (sa Z 2 (upd (Z 2) (14 + 5 * r + w) (((Z 2) (14 + 5 * r + w)) + x))) g) := by
  refine Met.ofW (cc := cX8_addTo) (maxL := 4) (ret := none) (by decide) rfl ?_
  intro p e s m args below meth c s₁ B hml hv
  obtain ⟨ha, hsz, hP, hK, hD0, hE0⟩ := hv
  have hx := B.exec
  have hb := B.bytes
  have hr := B.returns
  have hlocks := B.notSynchronized
  have hts := atoms_spec (ws := wsX8_addTo) B.pre
  have hown : s.vm.findClass RX8 = some m.cls := findClass_of_methodNamed B.named
  have cx : CallFix p m c cX8_addTo 4 s args wsX8_addTo RX8 := ⟨hx, hb, hml, hown, hts⟩
  subst hsz
  have hD := hD0.self (sz := s.heap.size)
  generalize hAe : va_A (oX8 T q Z g) s.heap.size = A at hD hE0 ⊢
  have hE : gE A s s.heap := hE0
  have hA : ∀ q : Nat, s.heap.size ≤ q → A q := fun q h => by rw [← hAe]; exact Or.inr h
  have hS : va_S A s.heap s.heap [] := va_S.rf
  refine w_entry ha (Nat.le_of_ble_eq_true rfl) (fun ls hl => ?_)
  refine w_q (fun Q0 hQ => ?_)
  have lk7 := hts (.fieldLink RX8 7 "WhistleTunesModel" "state" "[I") (by decide +kernel)
  have hinX8 : ∀ w ∈ wsX80, w ∈ wsX8_addTo := by decide +kernel
  have hl : lv_has ls 4 [(0, .ref (q 0)), (1, .int (nI r)), (2, .int (nI w)), (3, .int x)] := hl
  have hP : va_P G vwCl [(q 0, .inr (8, [.int (Z 0 0), .ref (q 2), .ref (q 3), .int (Z 0 3), .ref (q 5), .int (Z 0 5), .ref (q 7), .int (Z 0 7), .int (Z 0 8), .int (Z 0 9), .int (Z 0 10), .int (Z 0 11), .ref (q 13), .int (Z 0 13), .ref (q 15), .long g])), (q 2, .inl (T 0, 267, .inl (Z 2))), (q 3, .inl (T 0, 1602, .inl (Z 3))), (q 5, .inl (T 0, 267, .inl (Z 5))), (q 7, .inl (T 0, 60, .inl (Z 7))), (q 13, .inl (T 0, 8, .inl (Z 13))), (q 15, .inl (T 0, 3, .inl (Z 15)))] s.heap := hP
  have hD : va_D A [(q 0, .inr (8, [.int (Z 0 0), .ref (q 2), .ref (q 3), .int (Z 0 3), .ref (q 5), .int (Z 0 5), .ref (q 7), .int (Z 0 7), .int (Z 0 8), .int (Z 0 9), .int (Z 0 10), .int (Z 0 11), .ref (q 13), .int (Z 0 13), .ref (q 15), .long g])), (q 2, .inl (T 0, 267, .inl (Z 2))), (q 3, .inl (T 0, 1602, .inl (Z 3))), (q 5, .inl (T 0, 267, .inl (Z 5))), (q 7, .inl (T 0, 60, .inl (Z 7))), (q 13, .inl (T 0, 8, .inl (Z 13))), (q 15, .inl (T 0, 3, .inl (Z 15)))] := hD
  skip
  refine w_h (fun H locs hHe hLe => ?_)
  have hP : va_P G vwCl [(q 0, .inr (8, [.int (Z 0 0), .ref (q 2), .ref (q 3), .int (Z 0 3), .ref (q 5), .int (Z 0 5), .ref (q 7), .int (Z 0 7), .int (Z 0 8), .int (Z 0 9), .int (Z 0 10), .int (Z 0 11), .ref (q 13), .int (Z 0 13), .ref (q 15), .long g])), (q 2, .inl (T 0, 267, .inl (Z 2))), (q 3, .inl (T 0, 1602, .inl (Z 3))), (q 5, .inl (T 0, 267, .inl (Z 5))), (q 7, .inl (T 0, 60, .inl (Z 7))), (q 13, .inl (T 0, 8, .inl (Z 13))), (q 15, .inl (T 0, 3, .inl (Z 15)))] H := by rw [hHe]; exact hP
  have hS : va_S A s.heap H locs := by rw [hHe, hLe]; exact hS
  refine lv_aload_n hx hb dX8_addTo_0 rfl (lv_at hl 0 rfl) ?_
  refine va_get (D := G) (ci := 8) (v := .ref (q 2)) (C := RX8) (T := TX8) (N := 16) hx hb hts hinX8 hown hK hP 0 rfl rfl 1 (by decide) lk7 (fun _ h9 => h9) rfl dX8_addTo_1 ?_
  refine lv_bipush (v := nI 14) hx hb dX8_addTo_4 (by decide) ?_
  refine n_iconst hx hb 5 dX8_addTo_6 (by decide) ?_
  refine lv_iload_n hx hb dX8_addTo_7 rfl (lv_at hl 1 rfl) ?_
  refine n_imul (a := 5) (b := r) hx hb dX8_addTo_8 ?_
  refine n_iadd (a := 14) (b := 5 * r) hx hb dX8_addTo_9 ?_
  refine lv_iload_n hx hb dX8_addTo_10 rfl (lv_at hl 2 rfl) ?_
  refine n_iadd (a := 14 + 5 * r) (b := w) hx hb dX8_addTo_11 ?_
  refine lv_dup2_11 hx hb dX8_addTo_12 rfl rfl ?_
  refine n_iald hx hb hK hP 1 0 rfl rfl (14 + 5 * r + w) (by omega) (by decide) dX8_addTo_13 ?_
  refine lv_iload_n hx hb dX8_addTo_14 rfl (lv_at hl 3 rfl) ?_
  refine lv_iadd hx hb dX8_addTo_15 ?_
  refine n_iast hx hb hK hP hD hS 1 0 rfl rfl (14 + 5 * r + w) (by omega) (by decide) dX8_addTo_16 (fun H locs hP hD hS => ?_)
  have hP : va_P G vwCl [(q 0, .inr (8, [.int (Z 0 0), .ref (q 2), .ref (q 3), .int (Z 0 3), .ref (q 5), .int (Z 0 5), .ref (q 7), .int (Z 0 7), .int (Z 0 8), .int (Z 0 9), .int (Z 0 10), .int (Z 0 11), .ref (q 13), .int (Z 0 13), .ref (q 15), .long g])), (q 2, .inl (T 0, 267, .inl (upd (Z 2) (14 + 5 * r + w) (((Z 2) (14 + 5 * r + w)) + x)))), (q 3, .inl (T 0, 1602, .inl (Z 3))), (q 5, .inl (T 0, 267, .inl (Z 5))), (q 7, .inl (T 0, 60, .inl (Z 7))), (q 13, .inl (T 0, 8, .inl (Z 13))), (q 15, .inl (T 0, 3, .inl (Z 15)))] H := hP
  have hD : va_D A [(q 0, .inr (8, [.int (Z 0 0), .ref (q 2), .ref (q 3), .int (Z 0 3), .ref (q 5), .int (Z 0 5), .ref (q 7), .int (Z 0 7), .int (Z 0 8), .int (Z 0 9), .int (Z 0 10), .int (Z 0 11), .ref (q 13), .int (Z 0 13), .ref (q 15), .long g])), (q 2, .inl (T 0, 267, .inl (upd (Z 2) (14 + 5 * r + w) (((Z 2) (14 + 5 * r + w)) + x)))), (q 3, .inl (T 0, 1602, .inl (Z 3))), (q 5, .inl (T 0, 267, .inl (Z 5))), (q 7, .inl (T 0, 60, .inl (Z 7))), (q 13, .inl (T 0, 8, .inl (Z 13))), (q 15, .inl (T 0, 3, .inl (Z 15)))] := hD
  subst hQ
  have hP9 : va_P G vwCl (oX8 T q (sa Z 2 (upd (Z 2) (14 + 5 * r + w) (((Z 2) (14 + 5 * r + w)) + x))) g) H := hP
  have hD9 : va_D A (oX8 T q (sa Z 2 (upd (Z 2) (14 + 5 * r + w) (((Z 2) (14 + 5 * r + w)) + x))) g) := hD
  exact e_rwv hx hb hr hlocks hS hP9 hD9 dX8_addTo_17
set_option maxHeartbeats 4000000 in
set_option maxRecDepth 100000 in
theorem c_X8_setMessage (l : Launch) (G : va_G) (T : Nat → ClassId) (sz : Nat) (q : Nat → Nat) (Z : Nat → Nat → Int32) (g : Int64) (mm : Nat) (w : Nat) (x : Int32) (hm20 : mm < 20) (hw11 : w < 11) : RWv l yX8_setMessage wsX8_setMessage 0 0 0 G T sz (oX8 T q Z g) [.ref (q 0), .int (nI mm), .int (nI w), .int x] (oX8 T q (sa Z 2 (upd (Z 2) (47 + 11 * mm + w) x)) g) := by
  refine Met.ofW (cc := cX8_setMessage) (maxL := 4) (ret := none) (by decide) rfl ?_
  intro p e s m args below meth c s₁ B hml hv
  obtain ⟨ha, hsz, hP, hK, hD0, hE0⟩ := hv
  have hx := B.exec
  have hb := B.bytes
  have hr := B.returns
  have hlocks := B.notSynchronized
  have hts := atoms_spec (ws := wsX8_setMessage) B.pre
  have hown : s.vm.findClass RX8 = some m.cls := findClass_of_methodNamed B.named
  have cx : CallFix p m c cX8_setMessage 4 s args wsX8_setMessage RX8 := ⟨hx, hb, hml, hown, hts⟩
  subst hsz
  have hD := hD0.self (sz := s.heap.size)
  generalize hAe : va_A (oX8 T q Z g) s.heap.size = A at hD hE0 ⊢
  have hE : gE A s s.heap := hE0
  have hA : ∀ q : Nat, s.heap.size ≤ q → A q := fun q h => by rw [← hAe]; exact Or.inr h
  have hS : va_S A s.heap s.heap [] := va_S.rf
  refine w_entry ha (Nat.le_of_ble_eq_true rfl) (fun ls hl => ?_)
  refine w_q (fun Q0 hQ => ?_)
  have lk7 := hts (.fieldLink RX8 7 "WhistleTunesModel" "state" "[I") (by decide +kernel)
  have hinX8 : ∀ w ∈ wsX80, w ∈ wsX8_setMessage := by decide +kernel
  have hl : lv_has ls 4 [(0, .ref (q 0)), (1, .int (nI mm)), (2, .int (nI w)), (3, .int x)] := hl
  have hP : va_P G vwCl [(q 0, .inr (8, [.int (Z 0 0), .ref (q 2), .ref (q 3), .int (Z 0 3), .ref (q 5), .int (Z 0 5), .ref (q 7), .int (Z 0 7), .int (Z 0 8), .int (Z 0 9), .int (Z 0 10), .int (Z 0 11), .ref (q 13), .int (Z 0 13), .ref (q 15), .long g])), (q 2, .inl (T 0, 267, .inl (Z 2))), (q 3, .inl (T 0, 1602, .inl (Z 3))), (q 5, .inl (T 0, 267, .inl (Z 5))), (q 7, .inl (T 0, 60, .inl (Z 7))), (q 13, .inl (T 0, 8, .inl (Z 13))), (q 15, .inl (T 0, 3, .inl (Z 15)))] s.heap := hP
  have hD : va_D A [(q 0, .inr (8, [.int (Z 0 0), .ref (q 2), .ref (q 3), .int (Z 0 3), .ref (q 5), .int (Z 0 5), .ref (q 7), .int (Z 0 7), .int (Z 0 8), .int (Z 0 9), .int (Z 0 10), .int (Z 0 11), .ref (q 13), .int (Z 0 13), .ref (q 15), .long g])), (q 2, .inl (T 0, 267, .inl (Z 2))), (q 3, .inl (T 0, 1602, .inl (Z 3))), (q 5, .inl (T 0, 267, .inl (Z 5))), (q 7, .inl (T 0, 60, .inl (Z 7))), (q 13, .inl (T 0, 8, .inl (Z 13))), (q 15, .inl (T 0, 3, .inl (Z 15)))] := hD
  skip
  refine w_h (fun H locs hHe hLe => ?_)
  have hP : va_P G vwCl [(q 0, .inr (8, [.int (Z 0 0), .ref (q 2), .ref (q 3), .int (Z 0 3), .ref (q 5), .int (Z 0 5), .ref (q 7), .int (Z 0 7), .int (Z 0 8), .int (Z 0 9), .int (Z 0 10), .int (Z 0 11), .ref (q 13), .int (Z 0 13), .ref (q 15), .long g])), (q 2, .inl (T 0, 267, .inl (Z 2))), (q 3, .inl (T 0, 1602, .inl (Z 3))), (q 5, .inl (T 0, 267, .inl (Z 5))), (q 7, .inl (T 0, 60, .inl (Z 7))), (q 13, .inl (T 0, 8, .inl (Z 13))), (q 15, .inl (T 0, 3, .inl (Z 15)))] H := by rw [hHe]; exact hP
  have hS : va_S A s.heap H locs := by rw [hHe, hLe]; exact hS
  refine lv_aload_n hx hb dX8_setMessage_0 rfl (lv_at hl 0 rfl) ?_
  refine va_get (D := G) (ci := 8) (v := .ref (q 2)) (C := RX8) (T := TX8) (N := 16) hx hb hts hinX8 hown hK hP 0 rfl rfl 1 (by decide) lk7 (fun _ h9 => h9) rfl dX8_setMessage_1 ?_
  refine lv_bipush (v := nI 47) hx hb dX8_setMessage_4 (by decide) ?_
  refine lv_bipush (v := nI 11) hx hb dX8_setMessage_6 (by decide) ?_
  refine lv_iload_n hx hb dX8_setMessage_8 rfl (lv_at hl 1 rfl) ?_
  refine n_imul (a := 11) (b := mm) hx hb dX8_setMessage_9 ?_
  refine n_iadd (a := 47) (b := 11 * mm) hx hb dX8_setMessage_10 ?_
  refine lv_iload_n hx hb dX8_setMessage_11 rfl (lv_at hl 2 rfl) ?_
  refine n_iadd (a := 47 + 11 * mm) (b := w) hx hb dX8_setMessage_12 ?_
  refine lv_iload_n hx hb dX8_setMessage_13 rfl (lv_at hl 3 rfl) ?_
  refine n_iast hx hb hK hP hD hS 1 0 rfl rfl (47 + 11 * mm + w) (by omega) (by decide) dX8_setMessage_14 (fun H locs hP hD hS => ?_)
  have hP : va_P G vwCl [(q 0, .inr (8, [.int (Z 0 0), .ref (q 2), .ref (q 3), .int (Z 0 3), .ref (q 5), .int (Z 0 5), .ref (q 7), .int (Z 0 7), .int (Z 0 8), .int (Z 0 9), .int (Z 0 10), .int (Z 0 11), .ref (q 13), .int (Z 0 13), .ref (q 15), .long g])), (q 2, .inl (T 0, 267, .inl (upd (Z 2) (47 + 11 * mm + w) x))), (q 3, .inl (T 0, 1602, .inl (Z 3))), (q 5, .inl (T 0, 267, .inl (Z 5))), (q 7, .inl (T 0, 60, .inl (Z 7))), (q 13, .inl (T 0, 8, .inl (Z 13))), (q 15, .inl (T 0, 3, .inl (Z 15)))] H := hP
  have hD : va_D A [(q 0, .inr (8, [.int (Z 0 0), .ref (q 2), .ref (q 3), .int (Z 0 3), .ref (q 5), .int (Z 0 5), .ref (q 7), .int (Z 0 7), .int (Z 0 8), .int (Z 0 9), .int (Z 0 10), .int (Z 0 11), .ref (q 13), .int (Z 0 13), .ref (q 15), .long g])), (q 2, .inl (T 0, 267, .inl (upd (Z 2) (47 + 11 * mm + w) x))), (q 3, .inl (T 0, 1602, .inl (Z 3))), (q 5, .inl (T 0, 267, .inl (Z 5))), (q 7, .inl (T 0, 60, .inl (Z 7))), (q 13, .inl (T 0, 8, .inl (Z 13))), (q 15, .inl (T 0, 3, .inl (Z 15)))] := hD
  subst hQ
  have hP9 : va_P G vwCl (oX8 T q (sa Z 2 (upd (Z 2) (47 + 11 * mm + w) x)) g) H := hP
  have hD9 : va_D A (oX8 T q (sa Z 2 (upd (Z 2) (47 + 11 * mm + w) x)) g) := hD
  exact e_rwv hx hb hr hlocks hS hP9 hD9 dX8_setMessage_15
set_option maxHeartbeats 4000000 in
set_option maxRecDepth 100000 in
theorem c_X8_save (l : Launch) (G : va_G) (T : Nat → ClassId) (sz : Nat) (q : Nat → Nat) (Z : Nat → Nat → Int32) (g : Int64) (n : Nat) (hsv : Z 0 3 = nI n) (hn6 : n ≤ 6) : RWv l yX8_save wsX8_save 0 0 0 G T sz (oX8 T q Z g) [.ref (q 0)] (oX8 T q (sa (sc Z 3 (nI (mSvN n))) 3 (mSvF (Z 3) (Z 2) n)) g) := by
  refine Met.ofW (cc := cX8_save) (maxL := 2) (ret := none) (by decide) rfl ?_
  intro p e s m args below meth c s₁ B hml hv
  obtain ⟨ha, hsz, hP, hK, hD0, hE0⟩ := hv
  have hx := B.exec
  have hb := B.bytes
  have hr := B.returns
  have hlocks := B.notSynchronized
  have hts := atoms_spec (ws := wsX8_save) B.pre
  have hown : s.vm.findClass RX8 = some m.cls := findClass_of_methodNamed B.named
  have cx : CallFix p m c cX8_save 2 s args wsX8_save RX8 := ⟨hx, hb, hml, hown, hts⟩
  subst hsz
  have hD := hD0.self (sz := s.heap.size)
  generalize hAe : va_A (oX8 T q Z g) s.heap.size = A at hD hE0 ⊢
  have hE : gE A s s.heap := hE0
  have hA : ∀ q : Nat, s.heap.size ≤ q → A q := fun q h => by rw [← hAe]; exact Or.inr h
  have hS : va_S A s.heap s.heap [] := va_S.rf
  refine w_entry ha (Nat.le_of_ble_eq_true rfl) (fun ls hl => ?_)
  refine w_q (fun Q0 hQ => ?_)
  have lk36 := hts (.fieldLink RX8 36 "WhistleTunesModel" "savedMany" "I") (by decide +kernel)
  have hinX8 : ∀ w ∈ wsX80, w ∈ wsX8_save := by decide +kernel
  have lk13 := hts (.fieldLink RX8 13 "WhistleTunesModel" "saved" "[I") (by decide +kernel)
  have lk7 := hts (.fieldLink RX8 7 "WhistleTunesModel" "state" "[I") (by decide +kernel)
  have hl : lv_has ls 2 [(0, .ref (q 0))] := hl
  have hP : va_P G vwCl [(q 0, .inr (8, [.int (Z 0 0), .ref (q 2), .ref (q 3), .int (Z 0 3), .ref (q 5), .int (Z 0 5), .ref (q 7), .int (Z 0 7), .int (Z 0 8), .int (Z 0 9), .int (Z 0 10), .int (Z 0 11), .ref (q 13), .int (Z 0 13), .ref (q 15), .long g])), (q 2, .inl (T 0, 267, .inl (Z 2))), (q 3, .inl (T 0, 1602, .inl (Z 3))), (q 5, .inl (T 0, 267, .inl (Z 5))), (q 7, .inl (T 0, 60, .inl (Z 7))), (q 13, .inl (T 0, 8, .inl (Z 13))), (q 15, .inl (T 0, 3, .inl (Z 15)))] s.heap := hP
  have hD : va_D A [(q 0, .inr (8, [.int (Z 0 0), .ref (q 2), .ref (q 3), .int (Z 0 3), .ref (q 5), .int (Z 0 5), .ref (q 7), .int (Z 0 7), .int (Z 0 8), .int (Z 0 9), .int (Z 0 10), .int (Z 0 11), .ref (q 13), .int (Z 0 13), .ref (q 15), .long g])), (q 2, .inl (T 0, 267, .inl (Z 2))), (q 3, .inl (T 0, 1602, .inl (Z 3))), (q 5, .inl (T 0, 267, .inl (Z 5))), (q 7, .inl (T 0, 60, .inl (Z 7))), (q 13, .inl (T 0, 8, .inl (Z 13))), (q 15, .inl (T 0, 3, .inl (Z 15)))] := hD
  skip
  refine w_h (fun H locs hHe hLe => ?_)
  have hP : va_P G vwCl [(q 0, .inr (8, [.int (Z 0 0), .ref (q 2), .ref (q 3), .int (Z 0 3), .ref (q 5), .int (Z 0 5), .ref (q 7), .int (Z 0 7), .int (Z 0 8), .int (Z 0 9), .int (Z 0 10), .int (Z 0 11), .ref (q 13), .int (Z 0 13), .ref (q 15), .long g])), (q 2, .inl (T 0, 267, .inl (Z 2))), (q 3, .inl (T 0, 1602, .inl (Z 3))), (q 5, .inl (T 0, 267, .inl (Z 5))), (q 7, .inl (T 0, 60, .inl (Z 7))), (q 13, .inl (T 0, 8, .inl (Z 13))), (q 15, .inl (T 0, 3, .inl (Z 15)))] H := by rw [hHe]; exact hP
  have hS : va_S A s.heap H locs := by rw [hHe, hLe]; exact hS
  refine lv_aload_n hx hb dX8_save_0 rfl (lv_at hl 0 rfl) ?_
  refine va_get (D := G) (ci := 8) (v := .int (Z 0 3)) (C := RX8) (T := TX8) (N := 16) hx hb hts hinX8 hown hK hP 0 rfl rfl 3 (by decide) lk36 (fun _ h9 => h9) rfl dX8_save_1 ?_
  refine n_top (y := nI n) hsv ?_
  refine lv_bipush (v := nI 6) hx hb dX8_save_4 (by decide) ?_
  refine n_icmp_ne (a := n) (b := 6) (tgt := 50) hx hb (by omega) (by decide) dX8_save_6 (by decide) (fun c_1 => ?_) (fun c_2 => ?_)
  · skip
    refine n_iconst hx hb 0 dX8_save_50 (by decide) ?_
    refine lv_istore_n (lv' := [(1, .int (nI 0)), (0, .ref (q 0))]) hx hb dX8_save_51 rfl hl (by decide) rfl (fun ls hl => ?_)
    have L52 : ∀ (n9 k : Nat) (hk1 : k ≤ 267) (hk2 : 267 - k < n9) (x1 : Int32) (F_3 : Nat → Int32) (hx1 : x1 = nI k) (hF_3 : F_3 = mCp (Z 2) (Z 3) (n * 267) 0 k) (H : Heap) (locs : List Loc) (hP : va_P G vwCl [(q 0, .inr (8, [.int (Z 0 0), .ref (q 2), .ref (q 3), .int (Z 0 3), .ref (q 5), .int (Z 0 5), .ref (q 7), .int (Z 0 7), .int (Z 0 8), .int (Z 0 9), .int (Z 0 10), .int (Z 0 11), .ref (q 13), .int (Z 0 13), .ref (q 15), .long g])), (q 2, .inl (T 0, 267, .inl (Z 2))), (q 3, .inl (T 0, 1602, .inl F_3)), (q 5, .inl (T 0, 267, .inl (Z 5))), (q 7, .inl (T 0, 60, .inl (Z 7))), (q 13, .inl (T 0, 8, .inl (Z 13))), (q 15, .inl (T 0, 3, .inl (Z 15)))] H) (hD : va_D A [(q 0, .inr (8, [.int (Z 0 0), .ref (q 2), .ref (q 3), .int (Z 0 3), .ref (q 5), .int (Z 0 5), .ref (q 7), .int (Z 0 7), .int (Z 0 8), .int (Z 0 9), .int (Z 0 10), .int (Z 0 11), .ref (q 13), .int (Z 0 13), .ref (q 15), .long g])), (q 2, .inl (T 0, 267, .inl (Z 2))), (q 3, .inl (T 0, 1602, .inl F_3)), (q 5, .inl (T 0, 267, .inl (Z 5))), (q 7, .inl (T 0, 60, .inl (Z 7))), (q 13, .inl (T 0, 8, .inl (Z 13))), (q 15, .inl (T 0, 3, .inl (Z 15)))]) (hS : va_S A s.heap H locs) (ls : Array Slot) (hl : lv_has ls 2 [(1, .int x1), (0, .ref (q 0))]), W p l e (headSpec wsX8_save (rmD 0 0 0)).room s m args below meth c H locs 0 0 Q0 (F0 m 52 ls []) := by
      intro n9
      induction n9 with
      | zero => intros; omega
      | succ n9 ih52 =>
        intro k hk1 hk2 x1 F_3 hx1 hF_3 H locs hP hD hS ls hl
        subst hx1 hF_3
        refine lv_iload_n hx hb dX8_save_52 rfl (lv_at hl 0 rfl) ?_
        refine lv_sipush (v := nI 267) hx hb dX8_save_53 (by decide) ?_
        refine n_icmp_ge (a := k) (b := 267) (tgt := 86) hx hb (by omega) (by decide) dX8_save_56 (by decide) (fun c_4 => ?_) (fun c_5 => ?_)
        · skip
          obtain rfl : k = 267 := (by omega)
          refine lv_aload_n hx hb dX8_save_86 rfl (lv_at hl 1 rfl) ?_
          refine lv_dup hx hb dX8_save_87 rfl ?_
          refine va_get (D := G) (ci := 8) (v := .int (Z 0 3)) (C := RX8) (T := TX8) (N := 16) hx hb hts hinX8 hown hK hP 0 rfl rfl 3 (by decide) lk36 (fun _ h9 => h9) rfl dX8_save_88 ?_
          refine n_top (y := nI n) hsv ?_
          refine n_iconst hx hb 1 dX8_save_91 (by decide) ?_
          refine n_iadd (a := n) (b := 1) hx hb dX8_save_92 ?_
          refine va_put (D := G) (ci := 8) (v := .int (nI (n + 1))) (ty := .int) (C := RX8) (T := TX8) (N := 16) hx hb hts hinX8 tyX8 tyX8_ok nmX8 hown hK hP hD hS 0 rfl rfl 3 (by decide) lk36 (fun _ h9 => h9) rfl (by decide +kernel) rfl rfl (Nat.le_of_ble_eq_true rfl) dX8_save_93 (fun H locs hP hD hS => ?_)
          have hP : va_P G vwCl [(q 0, .inr (8, [.int (Z 0 0), .ref (q 2), .ref (q 3), .int (nI (n + 1)), .ref (q 5), .int (Z 0 5), .ref (q 7), .int (Z 0 7), .int (Z 0 8), .int (Z 0 9), .int (Z 0 10), .int (Z 0 11), .ref (q 13), .int (Z 0 13), .ref (q 15), .long g])), (q 2, .inl (T 0, 267, .inl (Z 2))), (q 3, .inl (T 0, 1602, .inl (mCp (Z 2) (Z 3) (n * 267) 0 267))), (q 5, .inl (T 0, 267, .inl (Z 5))), (q 7, .inl (T 0, 60, .inl (Z 7))), (q 13, .inl (T 0, 8, .inl (Z 13))), (q 15, .inl (T 0, 3, .inl (Z 15)))] H := hP
          have hD : va_D A [(q 0, .inr (8, [.int (Z 0 0), .ref (q 2), .ref (q 3), .int (nI (n + 1)), .ref (q 5), .int (Z 0 5), .ref (q 7), .int (Z 0 7), .int (Z 0 8), .int (Z 0 9), .int (Z 0 10), .int (Z 0 11), .ref (q 13), .int (Z 0 13), .ref (q 15), .long g])), (q 2, .inl (T 0, 267, .inl (Z 2))), (q 3, .inl (T 0, 1602, .inl (mCp (Z 2) (Z 3) (n * 267) 0 267))), (q 5, .inl (T 0, 267, .inl (Z 5))), (q 7, .inl (T 0, 60, .inl (Z 7))), (q 13, .inl (T 0, 8, .inl (Z 13))), (q 15, .inl (T 0, 3, .inl (Z 15)))] := hD
          subst hQ
          have e_6 : (mCp (Z 2) (Z 3) (n * 267) 0 267) = mSvF (Z 3) (Z 2) n := (by simp [mSvF, c_1, c_4])
          have e_7 : nI (n + 1) = nI (mSvN n) := (by simp [mSvN, c_1, c_4])
          rw [e_6, e_7] at hP hD
          have hP9 : va_P G vwCl (oX8 T q (sa (sc Z 3 (nI (mSvN n))) 3 (mSvF (Z 3) (Z 2) n)) g) H := hP
          have hD9 : va_D A (oX8 T q (sa (sc Z 3 (nI (mSvN n))) 3 (mSvF (Z 3) (Z 2) n)) g) := hD
          exact e_rwv hx hb hr hlocks hS hP9 hD9 dX8_save_96
        · skip
          refine lv_aload_n hx hb dX8_save_59 rfl (lv_at hl 1 rfl) ?_
          refine va_get (D := G) (ci := 8) (v := .ref (q 3)) (C := RX8) (T := TX8) (N := 16) hx hb hts hinX8 hown hK hP 0 rfl rfl 2 (by decide) lk13 (fun _ h9 => h9) rfl dX8_save_60 ?_
          refine lv_aload_n hx hb dX8_save_63 rfl (lv_at hl 1 rfl) ?_
          refine va_get (D := G) (ci := 8) (v := .int (Z 0 3)) (C := RX8) (T := TX8) (N := 16) hx hb hts hinX8 hown hK hP 0 rfl rfl 3 (by decide) lk36 (fun _ h9 => h9) rfl dX8_save_64 ?_
          refine n_top (y := nI n) hsv ?_
          refine lv_sipush (v := nI 267) hx hb dX8_save_67 (by decide) ?_
          refine n_imul (a := n) (b := 267) hx hb dX8_save_70 ?_
          refine lv_iload_n hx hb dX8_save_71 rfl (lv_at hl 0 rfl) ?_
          refine n_iadd (a := n * 267) (b := k) hx hb dX8_save_72 ?_
          refine lv_aload_n hx hb dX8_save_73 rfl (lv_at hl 1 rfl) ?_
          refine va_get (D := G) (ci := 8) (v := .ref (q 2)) (C := RX8) (T := TX8) (N := 16) hx hb hts hinX8 hown hK hP 0 rfl rfl 1 (by decide) lk7 (fun _ h9 => h9) rfl dX8_save_74 ?_
          refine lv_iload_n hx hb dX8_save_77 rfl (lv_at hl 0 rfl) ?_
          refine n_iald hx hb hK hP 1 0 rfl rfl k (by omega) (by decide) dX8_save_78 ?_
          refine n_iast hx hb hK hP hD hS 2 0 rfl rfl (n * 267 + k) (by omega) (by decide) dX8_save_79 (fun H locs hP hD hS => ?_)
          have hP : va_P G vwCl [(q 0, .inr (8, [.int (Z 0 0), .ref (q 2), .ref (q 3), .int (Z 0 3), .ref (q 5), .int (Z 0 5), .ref (q 7), .int (Z 0 7), .int (Z 0 8), .int (Z 0 9), .int (Z 0 10), .int (Z 0 11), .ref (q 13), .int (Z 0 13), .ref (q 15), .long g])), (q 2, .inl (T 0, 267, .inl (Z 2))), (q 3, .inl (T 0, 1602, .inl (upd (mCp (Z 2) (Z 3) (n * 267) 0 k) (n * 267 + k) ((Z 2) k)))), (q 5, .inl (T 0, 267, .inl (Z 5))), (q 7, .inl (T 0, 60, .inl (Z 7))), (q 13, .inl (T 0, 8, .inl (Z 13))), (q 15, .inl (T 0, 3, .inl (Z 15)))] H := hP
          have hD : va_D A [(q 0, .inr (8, [.int (Z 0 0), .ref (q 2), .ref (q 3), .int (Z 0 3), .ref (q 5), .int (Z 0 5), .ref (q 7), .int (Z 0 7), .int (Z 0 8), .int (Z 0 9), .int (Z 0 10), .int (Z 0 11), .ref (q 13), .int (Z 0 13), .ref (q 15), .long g])), (q 2, .inl (T 0, 267, .inl (Z 2))), (q 3, .inl (T 0, 1602, .inl (upd (mCp (Z 2) (Z 3) (n * 267) 0 k) (n * 267 + k) ((Z 2) k)))), (q 5, .inl (T 0, 267, .inl (Z 5))), (q 7, .inl (T 0, 60, .inl (Z 7))), (q 13, .inl (T 0, 8, .inl (Z 13))), (q 15, .inl (T 0, 3, .inl (Z 15)))] := hD
          refine lv_iinc (v := nI (k + 1)) (lv' := [(1, .int (nI (k + 1))), (0, .ref (q 0))]) hx hb dX8_save_80 hl (k := 0) rfl (n_inc k 1 rfl) (by decide) rfl (fun ls hl => ?_)
          refine lv_goto (tgt := 52) hx hb dX8_save_83 (by decide) ?_
          have e_8 : (upd (mCp (Z 2) (Z 3) (n * 267) 0 k) (n * 267 + k) ((Z 2) k)) = mCp (Z 2) (Z 3) (n * 267) 0 (k + 1) := (by simp only [mCp, Nat.zero_add])
          exact ih52 (k + 1) (by omega) (by omega) _ _ rfl e_8 _ _ hP hD hS _ (lv_sub hl [0, 1] rfl)
    exact L52 (267 + 1) 0 (by omega) (by omega) _ _ rfl rfl _ _ hP hD hS _ (lv_sub hl [0, 1] rfl)
  · skip
    refine n_iconst hx hb 0 dX8_save_9 (by decide) ?_
    refine lv_istore_n (lv' := [(1, .int (nI 0)), (0, .ref (q 0))]) hx hb dX8_save_10 rfl hl (by decide) rfl (fun ls hl => ?_)
    have L11 : ∀ (n9 k : Nat) (hk1 : k ≤ 1335) (hk2 : 1335 - k < n9) (x1 : Int32) (F_9 : Nat → Int32) (hx1 : x1 = nI k) (hF_9 : F_9 = mSh0 (Z 3) k) (H : Heap) (locs : List Loc) (hP : va_P G vwCl [(q 0, .inr (8, [.int (Z 0 0), .ref (q 2), .ref (q 3), .int (Z 0 3), .ref (q 5), .int (Z 0 5), .ref (q 7), .int (Z 0 7), .int (Z 0 8), .int (Z 0 9), .int (Z 0 10), .int (Z 0 11), .ref (q 13), .int (Z 0 13), .ref (q 15), .long g])), (q 2, .inl (T 0, 267, .inl (Z 2))), (q 3, .inl (T 0, 1602, .inl F_9)), (q 5, .inl (T 0, 267, .inl (Z 5))), (q 7, .inl (T 0, 60, .inl (Z 7))), (q 13, .inl (T 0, 8, .inl (Z 13))), (q 15, .inl (T 0, 3, .inl (Z 15)))] H) (hD : va_D A [(q 0, .inr (8, [.int (Z 0 0), .ref (q 2), .ref (q 3), .int (Z 0 3), .ref (q 5), .int (Z 0 5), .ref (q 7), .int (Z 0 7), .int (Z 0 8), .int (Z 0 9), .int (Z 0 10), .int (Z 0 11), .ref (q 13), .int (Z 0 13), .ref (q 15), .long g])), (q 2, .inl (T 0, 267, .inl (Z 2))), (q 3, .inl (T 0, 1602, .inl F_9)), (q 5, .inl (T 0, 267, .inl (Z 5))), (q 7, .inl (T 0, 60, .inl (Z 7))), (q 13, .inl (T 0, 8, .inl (Z 13))), (q 15, .inl (T 0, 3, .inl (Z 15)))]) (hS : va_S A s.heap H locs) (ls : Array Slot) (hl : lv_has ls 2 [(1, .int x1), (0, .ref (q 0))]), W p l e (headSpec wsX8_save (rmD 0 0 0)).room s m args below meth c H locs 0 0 Q0 (F0 m 11 ls []) := by
      intro n9
      induction n9 with
      | zero => intros; omega
      | succ n9 ih11 =>
        intro k hk1 hk2 x1 F_9 hx1 hF_9 H locs hP hD hS ls hl
        subst hx1 hF_9
        refine lv_iload_n hx hb dX8_save_11 rfl (lv_at hl 0 rfl) ?_
        refine lv_sipush (v := nI 1335) hx hb dX8_save_12 (by decide) ?_
        refine n_icmp_ge (a := k) (b := 1335) (tgt := 40) hx hb (by omega) (by decide) dX8_save_15 (by decide) (fun c_10 => ?_) (fun c_11 => ?_)
        · skip
          obtain rfl : k = 1335 := (by omega)
          refine lv_aload_n hx hb dX8_save_40 rfl (lv_at hl 1 rfl) ?_
          refine lv_dup hx hb dX8_save_41 rfl ?_
          refine va_get (D := G) (ci := 8) (v := .int (Z 0 3)) (C := RX8) (T := TX8) (N := 16) hx hb hts hinX8 hown hK hP 0 rfl rfl 3 (by decide) lk36 (fun _ h9 => h9) rfl dX8_save_42 ?_
          refine n_top (y := nI n) hsv ?_
          refine n_iconst hx hb 1 dX8_save_45 (by decide) ?_
          refine n_isub (a := n) (b := 1) hx hb (by omega) dX8_save_46 ?_
          refine va_put (D := G) (ci := 8) (v := .int (nI (n - 1))) (ty := .int) (C := RX8) (T := TX8) (N := 16) hx hb hts hinX8 tyX8 tyX8_ok nmX8 hown hK hP hD hS 0 rfl rfl 3 (by decide) lk36 (fun _ h9 => h9) rfl (by decide +kernel) rfl rfl (Nat.le_of_ble_eq_true rfl) dX8_save_47 (fun H locs hP hD hS => ?_)
          have hP : va_P G vwCl [(q 0, .inr (8, [.int (Z 0 0), .ref (q 2), .ref (q 3), .int (nI (n - 1)), .ref (q 5), .int (Z 0 5), .ref (q 7), .int (Z 0 7), .int (Z 0 8), .int (Z 0 9), .int (Z 0 10), .int (Z 0 11), .ref (q 13), .int (Z 0 13), .ref (q 15), .long g])), (q 2, .inl (T 0, 267, .inl (Z 2))), (q 3, .inl (T 0, 1602, .inl (mSh0 (Z 3) 1335))), (q 5, .inl (T 0, 267, .inl (Z 5))), (q 7, .inl (T 0, 60, .inl (Z 7))), (q 13, .inl (T 0, 8, .inl (Z 13))), (q 15, .inl (T 0, 3, .inl (Z 15)))] H := hP
          have hD : va_D A [(q 0, .inr (8, [.int (Z 0 0), .ref (q 2), .ref (q 3), .int (nI (n - 1)), .ref (q 5), .int (Z 0 5), .ref (q 7), .int (Z 0 7), .int (Z 0 8), .int (Z 0 9), .int (Z 0 10), .int (Z 0 11), .ref (q 13), .int (Z 0 13), .ref (q 15), .long g])), (q 2, .inl (T 0, 267, .inl (Z 2))), (q 3, .inl (T 0, 1602, .inl (mSh0 (Z 3) 1335))), (q 5, .inl (T 0, 267, .inl (Z 5))), (q 7, .inl (T 0, 60, .inl (Z 7))), (q 13, .inl (T 0, 8, .inl (Z 13))), (q 15, .inl (T 0, 3, .inl (Z 15)))] := hD
          refine n_iconst hx hb 0 dX8_save_50 (by decide) ?_
          refine lv_istore_n (lv' := [(1, .int (nI 0)), (0, .ref (q 0))]) hx hb dX8_save_51 rfl hl (by decide) rfl (fun ls hl => ?_)
          have L52_i_12 : ∀ (n9 k : Nat) (hk1 : k ≤ 267) (hk2 : 267 - k < n9) (x1 : Int32) (F_13 : Nat → Int32) (hx1 : x1 = nI k) (hF_13 : F_13 = mCp (Z 2) (mSh0 (Z 3) 1335) ((n - 1) * 267) 0 k) (H : Heap) (locs : List Loc) (hP : va_P G vwCl [(q 0, .inr (8, [.int (Z 0 0), .ref (q 2), .ref (q 3), .int (nI (n - 1)), .ref (q 5), .int (Z 0 5), .ref (q 7), .int (Z 0 7), .int (Z 0 8), .int (Z 0 9), .int (Z 0 10), .int (Z 0 11), .ref (q 13), .int (Z 0 13), .ref (q 15), .long g])), (q 2, .inl (T 0, 267, .inl (Z 2))), (q 3, .inl (T 0, 1602, .inl F_13)), (q 5, .inl (T 0, 267, .inl (Z 5))), (q 7, .inl (T 0, 60, .inl (Z 7))), (q 13, .inl (T 0, 8, .inl (Z 13))), (q 15, .inl (T 0, 3, .inl (Z 15)))] H) (hD : va_D A [(q 0, .inr (8, [.int (Z 0 0), .ref (q 2), .ref (q 3), .int (nI (n - 1)), .ref (q 5), .int (Z 0 5), .ref (q 7), .int (Z 0 7), .int (Z 0 8), .int (Z 0 9), .int (Z 0 10), .int (Z 0 11), .ref (q 13), .int (Z 0 13), .ref (q 15), .long g])), (q 2, .inl (T 0, 267, .inl (Z 2))), (q 3, .inl (T 0, 1602, .inl F_13)), (q 5, .inl (T 0, 267, .inl (Z 5))), (q 7, .inl (T 0, 60, .inl (Z 7))), (q 13, .inl (T 0, 8, .inl (Z 13))), (q 15, .inl (T 0, 3, .inl (Z 15)))]) (hS : va_S A s.heap H locs) (ls : Array Slot) (hl : lv_has ls 2 [(1, .int x1), (0, .ref (q 0))]), W p l e (headSpec wsX8_save (rmD 0 0 0)).room s m args below meth c H locs 0 0 Q0 (F0 m 52 ls []) := by
            intro n9
            induction n9 with
            | zero => intros; omega
            | succ n9 ih52 =>
              intro k hk1 hk2 x1 F_13 hx1 hF_13 H locs hP hD hS ls hl
              subst hx1 hF_13
              refine lv_iload_n hx hb dX8_save_52 rfl (lv_at hl 0 rfl) ?_
              refine lv_sipush (v := nI 267) hx hb dX8_save_53 (by decide) ?_
              refine n_icmp_ge (a := k) (b := 267) (tgt := 86) hx hb (by omega) (by decide) dX8_save_56 (by decide) (fun c_14 => ?_) (fun c_15 => ?_)
              · skip
                obtain rfl : k = 267 := (by omega)
                refine lv_aload_n hx hb dX8_save_86 rfl (lv_at hl 1 rfl) ?_
                refine lv_dup hx hb dX8_save_87 rfl ?_
                refine va_get (D := G) (ci := 8) (v := .int (nI (n - 1))) (C := RX8) (T := TX8) (N := 16) hx hb hts hinX8 hown hK hP 0 rfl rfl 3 (by decide) lk36 (fun _ h9 => h9) rfl dX8_save_88 ?_
                refine n_iconst hx hb 1 dX8_save_91 (by decide) ?_
                refine n_iadd (a := n - 1) (b := 1) hx hb dX8_save_92 ?_
                refine va_put (D := G) (ci := 8) (v := .int (nI (n - 1 + 1))) (ty := .int) (C := RX8) (T := TX8) (N := 16) hx hb hts hinX8 tyX8 tyX8_ok nmX8 hown hK hP hD hS 0 rfl rfl 3 (by decide) lk36 (fun _ h9 => h9) rfl (by decide +kernel) rfl rfl (Nat.le_of_ble_eq_true rfl) dX8_save_93 (fun H locs hP hD hS => ?_)
                have hP : va_P G vwCl [(q 0, .inr (8, [.int (Z 0 0), .ref (q 2), .ref (q 3), .int (nI (n - 1 + 1)), .ref (q 5), .int (Z 0 5), .ref (q 7), .int (Z 0 7), .int (Z 0 8), .int (Z 0 9), .int (Z 0 10), .int (Z 0 11), .ref (q 13), .int (Z 0 13), .ref (q 15), .long g])), (q 2, .inl (T 0, 267, .inl (Z 2))), (q 3, .inl (T 0, 1602, .inl (mCp (Z 2) (mSh0 (Z 3) 1335) ((n - 1) * 267) 0 267))), (q 5, .inl (T 0, 267, .inl (Z 5))), (q 7, .inl (T 0, 60, .inl (Z 7))), (q 13, .inl (T 0, 8, .inl (Z 13))), (q 15, .inl (T 0, 3, .inl (Z 15)))] H := hP
                have hD : va_D A [(q 0, .inr (8, [.int (Z 0 0), .ref (q 2), .ref (q 3), .int (nI (n - 1 + 1)), .ref (q 5), .int (Z 0 5), .ref (q 7), .int (Z 0 7), .int (Z 0 8), .int (Z 0 9), .int (Z 0 10), .int (Z 0 11), .ref (q 13), .int (Z 0 13), .ref (q 15), .long g])), (q 2, .inl (T 0, 267, .inl (Z 2))), (q 3, .inl (T 0, 1602, .inl (mCp (Z 2) (mSh0 (Z 3) 1335) ((n - 1) * 267) 0 267))), (q 5, .inl (T 0, 267, .inl (Z 5))), (q 7, .inl (T 0, 60, .inl (Z 7))), (q 13, .inl (T 0, 8, .inl (Z 13))), (q 15, .inl (T 0, 3, .inl (Z 15)))] := hD
                subst hQ
                have e_16 : (mCp (Z 2) (mSh0 (Z 3) 1335) ((n - 1) * 267) 0 267) = mSvF (Z 3) (Z 2) n := (by simp [mSvF, c_2, c_10, c_14])
                have e_17 : nI (n - 1 + 1) = nI (mSvN n) := (by simp [mSvN, c_2, c_10, c_14])
                rw [e_16, e_17] at hP hD
                have hP9 : va_P G vwCl (oX8 T q (sa (sc Z 3 (nI (mSvN n))) 3 (mSvF (Z 3) (Z 2) n)) g) H := hP
                have hD9 : va_D A (oX8 T q (sa (sc Z 3 (nI (mSvN n))) 3 (mSvF (Z 3) (Z 2) n)) g) := hD
                exact e_rwv hx hb hr hlocks hS hP9 hD9 dX8_save_96
              · skip
                refine lv_aload_n hx hb dX8_save_59 rfl (lv_at hl 1 rfl) ?_
                refine va_get (D := G) (ci := 8) (v := .ref (q 3)) (C := RX8) (T := TX8) (N := 16) hx hb hts hinX8 hown hK hP 0 rfl rfl 2 (by decide) lk13 (fun _ h9 => h9) rfl dX8_save_60 ?_
                refine lv_aload_n hx hb dX8_save_63 rfl (lv_at hl 1 rfl) ?_
                refine va_get (D := G) (ci := 8) (v := .int (nI (n - 1))) (C := RX8) (T := TX8) (N := 16) hx hb hts hinX8 hown hK hP 0 rfl rfl 3 (by decide) lk36 (fun _ h9 => h9) rfl dX8_save_64 ?_
                refine lv_sipush (v := nI 267) hx hb dX8_save_67 (by decide) ?_
                refine n_imul (a := n - 1) (b := 267) hx hb dX8_save_70 ?_
                refine lv_iload_n hx hb dX8_save_71 rfl (lv_at hl 0 rfl) ?_
                refine n_iadd (a := (n - 1) * 267) (b := k) hx hb dX8_save_72 ?_
                refine lv_aload_n hx hb dX8_save_73 rfl (lv_at hl 1 rfl) ?_
                refine va_get (D := G) (ci := 8) (v := .ref (q 2)) (C := RX8) (T := TX8) (N := 16) hx hb hts hinX8 hown hK hP 0 rfl rfl 1 (by decide) lk7 (fun _ h9 => h9) rfl dX8_save_74 ?_
                refine lv_iload_n hx hb dX8_save_77 rfl (lv_at hl 0 rfl) ?_
                refine n_iald hx hb hK hP 1 0 rfl rfl k (by omega) (by decide) dX8_save_78 ?_
                refine n_iast hx hb hK hP hD hS 2 0 rfl rfl ((n - 1) * 267 + k) (by omega) (by decide) dX8_save_79 (fun H locs hP hD hS => ?_)
                have hP : va_P G vwCl [(q 0, .inr (8, [.int (Z 0 0), .ref (q 2), .ref (q 3), .int (nI (n - 1)), .ref (q 5), .int (Z 0 5), .ref (q 7), .int (Z 0 7), .int (Z 0 8), .int (Z 0 9), .int (Z 0 10), .int (Z 0 11), .ref (q 13), .int (Z 0 13), .ref (q 15), .long g])), (q 2, .inl (T 0, 267, .inl (Z 2))), (q 3, .inl (T 0, 1602, .inl (upd (mCp (Z 2) (mSh0 (Z 3) 1335) ((n - 1) * 267) 0 k) ((n - 1) * 267 + k) ((Z 2) k)))), (q 5, .inl (T 0, 267, .inl (Z 5))), (q 7, .inl (T 0, 60, .inl (Z 7))), (q 13, .inl (T 0, 8, .inl (Z 13))), (q 15, .inl (T 0, 3, .inl (Z 15)))] H := hP
                have hD : va_D A [(q 0, .inr (8, [.int (Z 0 0), .ref (q 2), .ref (q 3), .int (nI (n - 1)), .ref (q 5), .int (Z 0 5), .ref (q 7), .int (Z 0 7), .int (Z 0 8), .int (Z 0 9), .int (Z 0 10), .int (Z 0 11), .ref (q 13), .int (Z 0 13), .ref (q 15), .long g])), (q 2, .inl (T 0, 267, .inl (Z 2))), (q 3, .inl (T 0, 1602, .inl (upd (mCp (Z 2) (mSh0 (Z 3) 1335) ((n - 1) * 267) 0 k) ((n - 1) * 267 + k) ((Z 2) k)))), (q 5, .inl (T 0, 267, .inl (Z 5))), (q 7, .inl (T 0, 60, .inl (Z 7))), (q 13, .inl (T 0, 8, .inl (Z 13))), (q 15, .inl (T 0, 3, .inl (Z 15)))] := hD
                refine lv_iinc (v := nI (k + 1)) (lv' := [(1, .int (nI (k + 1))), (0, .ref (q 0))]) hx hb dX8_save_80 hl (k := 0) rfl (n_inc k 1 rfl) (by decide) rfl (fun ls hl => ?_)
                refine lv_goto (tgt := 52) hx hb dX8_save_83 (by decide) ?_
                have e_18 : (upd (mCp (Z 2) (mSh0 (Z 3) 1335) ((n - 1) * 267) 0 k) ((n - 1) * 267 + k) ((Z 2) k)) = mCp (Z 2) (mSh0 (Z 3) 1335) ((n - 1) * 267) 0 (k + 1) := (by simp only [mCp, Nat.zero_add])
                exact ih52 (k + 1) (by omega) (by omega) _ _ rfl e_18 _ _ hP hD hS _ (lv_sub hl [0, 1] rfl)
          exact L52_i_12 (267 + 1) 0 (by omega) (by omega) _ _ rfl rfl _ _ hP hD hS _ (lv_sub hl [0, 1] rfl)
        · skip
          refine lv_aload_n hx hb dX8_save_18 rfl (lv_at hl 1 rfl) ?_
          refine va_get (D := G) (ci := 8) (v := .ref (q 3)) (C := RX8) (T := TX8) (N := 16) hx hb hts hinX8 hown hK hP 0 rfl rfl 2 (by decide) lk13 (fun _ h9 => h9) rfl dX8_save_19 ?_
          refine lv_iload_n hx hb dX8_save_22 rfl (lv_at hl 0 rfl) ?_
          refine lv_aload_n hx hb dX8_save_23 rfl (lv_at hl 1 rfl) ?_
          refine va_get (D := G) (ci := 8) (v := .ref (q 3)) (C := RX8) (T := TX8) (N := 16) hx hb hts hinX8 hown hK hP 0 rfl rfl 2 (by decide) lk13 (fun _ h9 => h9) rfl dX8_save_24 ?_
          refine lv_iload_n hx hb dX8_save_27 rfl (lv_at hl 0 rfl) ?_
          refine lv_sipush (v := nI 267) hx hb dX8_save_28 (by decide) ?_
          refine n_iadd (a := k) (b := 267) hx hb dX8_save_31 ?_
          refine n_iald hx hb hK hP 2 0 rfl rfl (k + 267) (by omega) (by decide) dX8_save_32 ?_
          refine n_iast hx hb hK hP hD hS 2 0 rfl rfl k (by omega) (by decide) dX8_save_33 (fun H locs hP hD hS => ?_)
          have hP : va_P G vwCl [(q 0, .inr (8, [.int (Z 0 0), .ref (q 2), .ref (q 3), .int (Z 0 3), .ref (q 5), .int (Z 0 5), .ref (q 7), .int (Z 0 7), .int (Z 0 8), .int (Z 0 9), .int (Z 0 10), .int (Z 0 11), .ref (q 13), .int (Z 0 13), .ref (q 15), .long g])), (q 2, .inl (T 0, 267, .inl (Z 2))), (q 3, .inl (T 0, 1602, .inl (upd (mSh0 (Z 3) k) k ((mSh0 (Z 3) k) (k + 267))))), (q 5, .inl (T 0, 267, .inl (Z 5))), (q 7, .inl (T 0, 60, .inl (Z 7))), (q 13, .inl (T 0, 8, .inl (Z 13))), (q 15, .inl (T 0, 3, .inl (Z 15)))] H := hP
          have hD : va_D A [(q 0, .inr (8, [.int (Z 0 0), .ref (q 2), .ref (q 3), .int (Z 0 3), .ref (q 5), .int (Z 0 5), .ref (q 7), .int (Z 0 7), .int (Z 0 8), .int (Z 0 9), .int (Z 0 10), .int (Z 0 11), .ref (q 13), .int (Z 0 13), .ref (q 15), .long g])), (q 2, .inl (T 0, 267, .inl (Z 2))), (q 3, .inl (T 0, 1602, .inl (upd (mSh0 (Z 3) k) k ((mSh0 (Z 3) k) (k + 267))))), (q 5, .inl (T 0, 267, .inl (Z 5))), (q 7, .inl (T 0, 60, .inl (Z 7))), (q 13, .inl (T 0, 8, .inl (Z 13))), (q 15, .inl (T 0, 3, .inl (Z 15)))] := hD
          refine lv_iinc (v := nI (k + 1)) (lv' := [(1, .int (nI (k + 1))), (0, .ref (q 0))]) hx hb dX8_save_34 hl (k := 0) rfl (n_inc k 1 rfl) (by decide) rfl (fun ls hl => ?_)
          refine lv_goto (tgt := 11) hx hb dX8_save_37 (by decide) ?_
          have e_19 : (upd (mSh0 (Z 3) k) k ((mSh0 (Z 3) k) (k + 267))) = mSh0 (Z 3) (k + 1) := rfl
          exact ih11 (k + 1) (by omega) (by omega) _ _ rfl e_19 _ _ hP hD hS _ (lv_sub hl [0, 1] rfl)
    exact L11 (1335 + 1) 0 (by omega) (by omega) _ _ rfl rfl _ _ hP hD hS _ (lv_sub hl [0, 1] rfl)
set_option maxHeartbeats 4000000 in
set_option maxRecDepth 100000 in
theorem c_X8_undo (l : Launch) (G : va_G) (T : Nat → ClassId) (sz : Nat) (q : Nat → Nat) (Z : Nat → Nat → Int32) (g : Int64) (n : Nat) (hsv : Z 0 3 = nI n) (hn6 : n ≤ 6) (hn0 : ¬ n = 0) : RWi l yX8_undo wsX8_undo 1 0 0 G T sz (oX8 T q Z g) [.ref (q 0)] (nI (n - 1)) (oX8 T q (sa (sc (sc Z 0 (nI 0)) 3 (nI (n - 1))) 2 (mCp (Z 3) (Z 2) 0 ((n - 1) * 267) 267)) g) := by
  refine Met.ofW (cc := cX8_undo) (maxL := 2) (ret := (some .int)) (by decide) rfl ?_
  intro p e s m args below meth c s₁ B hml hv
  obtain ⟨ha, hsz, hP, hK, hD0, hE0⟩ := hv
  have hx := B.exec
  have hb := B.bytes
  have hr := B.returns
  have hlocks := B.notSynchronized
  have hts := atoms_spec (ws := wsX8_undo) B.pre
  have hown : s.vm.findClass RX8 = some m.cls := findClass_of_methodNamed B.named
  have cx : CallFix p m c cX8_undo 2 s args wsX8_undo RX8 := ⟨hx, hb, hml, hown, hts⟩
  subst hsz
  have hD := hD0.self (sz := s.heap.size)
  generalize hAe : va_A (oX8 T q Z g) s.heap.size = A at hD hE0 ⊢
  have hE : gE A s s.heap := hE0
  have hA : ∀ q : Nat, s.heap.size ≤ q → A q := fun q h => by rw [← hAe]; exact Or.inr h
  have hS : va_S A s.heap s.heap [] := va_S.rf
  refine w_entry ha (Nat.le_of_ble_eq_true rfl) (fun ls hl => ?_)
  refine w_q (fun Q0 hQ => ?_)
  have lk28 := hts (.fieldLink RX8 28 "WhistleTunesModel" "thrown" "I") (by decide +kernel)
  have hinX8 : ∀ w ∈ wsX80, w ∈ wsX8_undo := by decide +kernel
  have lk36 := hts (.fieldLink RX8 36 "WhistleTunesModel" "savedMany" "I") (by decide +kernel)
  have lk7 := hts (.fieldLink RX8 7 "WhistleTunesModel" "state" "[I") (by decide +kernel)
  have lk13 := hts (.fieldLink RX8 13 "WhistleTunesModel" "saved" "[I") (by decide +kernel)
  have hl : lv_has ls 2 [(0, .ref (q 0))] := hl
  have hP : va_P G vwCl [(q 0, .inr (8, [.int (Z 0 0), .ref (q 2), .ref (q 3), .int (Z 0 3), .ref (q 5), .int (Z 0 5), .ref (q 7), .int (Z 0 7), .int (Z 0 8), .int (Z 0 9), .int (Z 0 10), .int (Z 0 11), .ref (q 13), .int (Z 0 13), .ref (q 15), .long g])), (q 2, .inl (T 0, 267, .inl (Z 2))), (q 3, .inl (T 0, 1602, .inl (Z 3))), (q 5, .inl (T 0, 267, .inl (Z 5))), (q 7, .inl (T 0, 60, .inl (Z 7))), (q 13, .inl (T 0, 8, .inl (Z 13))), (q 15, .inl (T 0, 3, .inl (Z 15)))] s.heap := hP
  have hD : va_D A [(q 0, .inr (8, [.int (Z 0 0), .ref (q 2), .ref (q 3), .int (Z 0 3), .ref (q 5), .int (Z 0 5), .ref (q 7), .int (Z 0 7), .int (Z 0 8), .int (Z 0 9), .int (Z 0 10), .int (Z 0 11), .ref (q 13), .int (Z 0 13), .ref (q 15), .long g])), (q 2, .inl (T 0, 267, .inl (Z 2))), (q 3, .inl (T 0, 1602, .inl (Z 3))), (q 5, .inl (T 0, 267, .inl (Z 5))), (q 7, .inl (T 0, 60, .inl (Z 7))), (q 13, .inl (T 0, 8, .inl (Z 13))), (q 15, .inl (T 0, 3, .inl (Z 15)))] := hD
  skip
  refine w_h (fun H locs hHe hLe => ?_)
  have hP : va_P G vwCl [(q 0, .inr (8, [.int (Z 0 0), .ref (q 2), .ref (q 3), .int (Z 0 3), .ref (q 5), .int (Z 0 5), .ref (q 7), .int (Z 0 7), .int (Z 0 8), .int (Z 0 9), .int (Z 0 10), .int (Z 0 11), .ref (q 13), .int (Z 0 13), .ref (q 15), .long g])), (q 2, .inl (T 0, 267, .inl (Z 2))), (q 3, .inl (T 0, 1602, .inl (Z 3))), (q 5, .inl (T 0, 267, .inl (Z 5))), (q 7, .inl (T 0, 60, .inl (Z 7))), (q 13, .inl (T 0, 8, .inl (Z 13))), (q 15, .inl (T 0, 3, .inl (Z 15)))] H := by rw [hHe]; exact hP
  have hS : va_S A s.heap H locs := by rw [hHe, hLe]; exact hS
  refine lv_aload_n hx hb dX8_undo_0 rfl (lv_at hl 0 rfl) ?_
  refine n_iconst hx hb 0 dX8_undo_1 (by decide) ?_
  refine va_put (D := G) (ci := 8) (v := .int (nI 0)) (ty := .int) (C := RX8) (T := TX8) (N := 16) hx hb hts hinX8 tyX8 tyX8_ok nmX8 hown hK hP hD hS 0 rfl rfl 0 (by decide) lk28 (fun _ h9 => h9) rfl (by decide +kernel) rfl rfl (Nat.le_of_ble_eq_true rfl) dX8_undo_2 (fun H locs hP hD hS => ?_)
  have hP : va_P G vwCl [(q 0, .inr (8, [.int (nI 0), .ref (q 2), .ref (q 3), .int (Z 0 3), .ref (q 5), .int (Z 0 5), .ref (q 7), .int (Z 0 7), .int (Z 0 8), .int (Z 0 9), .int (Z 0 10), .int (Z 0 11), .ref (q 13), .int (Z 0 13), .ref (q 15), .long g])), (q 2, .inl (T 0, 267, .inl (Z 2))), (q 3, .inl (T 0, 1602, .inl (Z 3))), (q 5, .inl (T 0, 267, .inl (Z 5))), (q 7, .inl (T 0, 60, .inl (Z 7))), (q 13, .inl (T 0, 8, .inl (Z 13))), (q 15, .inl (T 0, 3, .inl (Z 15)))] H := hP
  have hD : va_D A [(q 0, .inr (8, [.int (nI 0), .ref (q 2), .ref (q 3), .int (Z 0 3), .ref (q 5), .int (Z 0 5), .ref (q 7), .int (Z 0 7), .int (Z 0 8), .int (Z 0 9), .int (Z 0 10), .int (Z 0 11), .ref (q 13), .int (Z 0 13), .ref (q 15), .long g])), (q 2, .inl (T 0, 267, .inl (Z 2))), (q 3, .inl (T 0, 1602, .inl (Z 3))), (q 5, .inl (T 0, 267, .inl (Z 5))), (q 7, .inl (T 0, 60, .inl (Z 7))), (q 13, .inl (T 0, 8, .inl (Z 13))), (q 15, .inl (T 0, 3, .inl (Z 15)))] := hD
  refine lv_aload_n hx hb dX8_undo_5 rfl (lv_at hl 0 rfl) ?_
  refine va_get (D := G) (ci := 8) (v := .int (Z 0 3)) (C := RX8) (T := TX8) (N := 16) hx hb hts hinX8 hown hK hP 0 rfl rfl 3 (by decide) lk36 (fun _ h9 => h9) rfl dX8_undo_6 ?_
  refine n_top (y := nI n) hsv ?_
  refine n_if_ne (a := n) (tgt := 18) hx hb (by omega) dX8_undo_9 (by decide) (fun c_1 => ?_) (fun c_2 => by exfalso; omega)
  refine lv_aload_n hx hb dX8_undo_18 rfl (lv_at hl 0 rfl) ?_
  refine lv_dup hx hb dX8_undo_19 rfl ?_
  refine va_get (D := G) (ci := 8) (v := .int (Z 0 3)) (C := RX8) (T := TX8) (N := 16) hx hb hts hinX8 hown hK hP 0 rfl rfl 3 (by decide) lk36 (fun _ h9 => h9) rfl dX8_undo_20 ?_
  refine n_top (y := nI n) hsv ?_
  refine n_iconst hx hb 1 dX8_undo_23 (by decide) ?_
  refine n_isub (a := n) (b := 1) hx hb (by omega) dX8_undo_24 ?_
  refine va_put (D := G) (ci := 8) (v := .int (nI (n - 1))) (ty := .int) (C := RX8) (T := TX8) (N := 16) hx hb hts hinX8 tyX8 tyX8_ok nmX8 hown hK hP hD hS 0 rfl rfl 3 (by decide) lk36 (fun _ h9 => h9) rfl (by decide +kernel) rfl rfl (Nat.le_of_ble_eq_true rfl) dX8_undo_25 (fun H locs hP hD hS => ?_)
  have hP : va_P G vwCl [(q 0, .inr (8, [.int (nI 0), .ref (q 2), .ref (q 3), .int (nI (n - 1)), .ref (q 5), .int (Z 0 5), .ref (q 7), .int (Z 0 7), .int (Z 0 8), .int (Z 0 9), .int (Z 0 10), .int (Z 0 11), .ref (q 13), .int (Z 0 13), .ref (q 15), .long g])), (q 2, .inl (T 0, 267, .inl (Z 2))), (q 3, .inl (T 0, 1602, .inl (Z 3))), (q 5, .inl (T 0, 267, .inl (Z 5))), (q 7, .inl (T 0, 60, .inl (Z 7))), (q 13, .inl (T 0, 8, .inl (Z 13))), (q 15, .inl (T 0, 3, .inl (Z 15)))] H := hP
  have hD : va_D A [(q 0, .inr (8, [.int (nI 0), .ref (q 2), .ref (q 3), .int (nI (n - 1)), .ref (q 5), .int (Z 0 5), .ref (q 7), .int (Z 0 7), .int (Z 0 8), .int (Z 0 9), .int (Z 0 10), .int (Z 0 11), .ref (q 13), .int (Z 0 13), .ref (q 15), .long g])), (q 2, .inl (T 0, 267, .inl (Z 2))), (q 3, .inl (T 0, 1602, .inl (Z 3))), (q 5, .inl (T 0, 267, .inl (Z 5))), (q 7, .inl (T 0, 60, .inl (Z 7))), (q 13, .inl (T 0, 8, .inl (Z 13))), (q 15, .inl (T 0, 3, .inl (Z 15)))] := hD
  refine n_iconst hx hb 0 dX8_undo_28 (by decide) ?_
  refine lv_istore_n (lv' := [(1, .int (nI 0)), (0, .ref (q 0))]) hx hb dX8_undo_29 rfl hl (by decide) rfl (fun ls hl => ?_)
  have L30 : ∀ (n9 k : Nat) (hk1 : k ≤ 267) (hk2 : 267 - k < n9) (x1 : Int32) (F_3 : Nat → Int32) (hx1 : x1 = nI k) (hF_3 : F_3 = mCp (Z 3) (Z 2) 0 ((n - 1) * 267) k) (H : Heap) (locs : List Loc) (hP : va_P G vwCl [(q 0, .inr (8, [.int (nI 0), .ref (q 2), .ref (q 3), .int (nI (n - 1)), .ref (q 5), .int (Z 0 5), .ref (q 7), .int (Z 0 7), .int (Z 0 8), .int (Z 0 9), .int (Z 0 10), .int (Z 0 11), .ref (q 13), .int (Z 0 13), .ref (q 15), .long g])), (q 2, .inl (T 0, 267, .inl F_3)), (q 3, .inl (T 0, 1602, .inl (Z 3))), (q 5, .inl (T 0, 267, .inl (Z 5))), (q 7, .inl (T 0, 60, .inl (Z 7))), (q 13, .inl (T 0, 8, .inl (Z 13))), (q 15, .inl (T 0, 3, .inl (Z 15)))] H) (hD : va_D A [(q 0, .inr (8, [.int (nI 0), .ref (q 2), .ref (q 3), .int (nI (n - 1)), .ref (q 5), .int (Z 0 5), .ref (q 7), .int (Z 0 7), .int (Z 0 8), .int (Z 0 9), .int (Z 0 10), .int (Z 0 11), .ref (q 13), .int (Z 0 13), .ref (q 15), .long g])), (q 2, .inl (T 0, 267, .inl F_3)), (q 3, .inl (T 0, 1602, .inl (Z 3))), (q 5, .inl (T 0, 267, .inl (Z 5))), (q 7, .inl (T 0, 60, .inl (Z 7))), (q 13, .inl (T 0, 8, .inl (Z 13))), (q 15, .inl (T 0, 3, .inl (Z 15)))]) (hS : va_S A s.heap H locs) (ls : Array Slot) (hl : lv_has ls 2 [(1, .int x1), (0, .ref (q 0))]), W p l e (headSpec wsX8_undo (rmD 1 0 0)).room s m args below meth c H locs 0 0 Q0 (F0 m 30 ls []) := by
    intro n9
    induction n9 with
    | zero => intros; omega
    | succ n9 ih30 =>
      intro k hk1 hk2 x1 F_3 hx1 hF_3 H locs hP hD hS ls hl
      subst hx1 hF_3
      refine lv_iload_n hx hb dX8_undo_30 rfl (lv_at hl 0 rfl) ?_
      refine lv_sipush (v := nI 267) hx hb dX8_undo_31 (by decide) ?_
      refine n_icmp_ge (a := k) (b := 267) (tgt := 64) hx hb (by omega) (by decide) dX8_undo_34 (by decide) (fun c_4 => ?_) (fun c_5 => ?_)
      · skip
        obtain rfl : k = 267 := (by omega)
        refine lv_aload_n hx hb dX8_undo_64 rfl (lv_at hl 1 rfl) ?_
        refine va_get (D := G) (ci := 8) (v := .int (nI (n - 1))) (C := RX8) (T := TX8) (N := 16) hx hb hts hinX8 hown hK hP 0 rfl rfl 3 (by decide) lk36 (fun _ h9 => h9) rfl dX8_undo_65 ?_
        subst hQ
        have hP9 : va_P G vwCl (oX8 T q (sa (sc (sc Z 0 (nI 0)) 3 (nI (n - 1))) 2 (mCp (Z 3) (Z 2) 0 ((n - 1) * 267) 267)) g) H := hP
        have hD9 : va_D A (oX8 T q (sa (sc (sc Z 0 (nI 0)) 3 (nI (n - 1))) 2 (mCp (Z 3) (Z 2) 0 ((n - 1) * 267) 267)) g) := hD
        exact e_rwi hx hb hr hlocks hS (by first | rfl | simp [bI, c_1, c_4]) hP9 hD9 dX8_undo_68
      · skip
        refine lv_aload_n hx hb dX8_undo_37 rfl (lv_at hl 1 rfl) ?_
        refine va_get (D := G) (ci := 8) (v := .ref (q 2)) (C := RX8) (T := TX8) (N := 16) hx hb hts hinX8 hown hK hP 0 rfl rfl 1 (by decide) lk7 (fun _ h9 => h9) rfl dX8_undo_38 ?_
        refine lv_iload_n hx hb dX8_undo_41 rfl (lv_at hl 0 rfl) ?_
        refine lv_aload_n hx hb dX8_undo_42 rfl (lv_at hl 1 rfl) ?_
        refine va_get (D := G) (ci := 8) (v := .ref (q 3)) (C := RX8) (T := TX8) (N := 16) hx hb hts hinX8 hown hK hP 0 rfl rfl 2 (by decide) lk13 (fun _ h9 => h9) rfl dX8_undo_43 ?_
        refine lv_aload_n hx hb dX8_undo_46 rfl (lv_at hl 1 rfl) ?_
        refine va_get (D := G) (ci := 8) (v := .int (nI (n - 1))) (C := RX8) (T := TX8) (N := 16) hx hb hts hinX8 hown hK hP 0 rfl rfl 3 (by decide) lk36 (fun _ h9 => h9) rfl dX8_undo_47 ?_
        refine lv_sipush (v := nI 267) hx hb dX8_undo_50 (by decide) ?_
        refine n_imul (a := n - 1) (b := 267) hx hb dX8_undo_53 ?_
        refine lv_iload_n hx hb dX8_undo_54 rfl (lv_at hl 0 rfl) ?_
        refine n_iadd (a := (n - 1) * 267) (b := k) hx hb dX8_undo_55 ?_
        refine n_iald hx hb hK hP 2 0 rfl rfl ((n - 1) * 267 + k) (by omega) (by decide) dX8_undo_56 ?_
        refine n_iast hx hb hK hP hD hS 1 0 rfl rfl k (by omega) (by decide) dX8_undo_57 (fun H locs hP hD hS => ?_)
        have hP : va_P G vwCl [(q 0, .inr (8, [.int (nI 0), .ref (q 2), .ref (q 3), .int (nI (n - 1)), .ref (q 5), .int (Z 0 5), .ref (q 7), .int (Z 0 7), .int (Z 0 8), .int (Z 0 9), .int (Z 0 10), .int (Z 0 11), .ref (q 13), .int (Z 0 13), .ref (q 15), .long g])), (q 2, .inl (T 0, 267, .inl (upd (mCp (Z 3) (Z 2) 0 ((n - 1) * 267) k) k ((Z 3) ((n - 1) * 267 + k))))), (q 3, .inl (T 0, 1602, .inl (Z 3))), (q 5, .inl (T 0, 267, .inl (Z 5))), (q 7, .inl (T 0, 60, .inl (Z 7))), (q 13, .inl (T 0, 8, .inl (Z 13))), (q 15, .inl (T 0, 3, .inl (Z 15)))] H := hP
        have hD : va_D A [(q 0, .inr (8, [.int (nI 0), .ref (q 2), .ref (q 3), .int (nI (n - 1)), .ref (q 5), .int (Z 0 5), .ref (q 7), .int (Z 0 7), .int (Z 0 8), .int (Z 0 9), .int (Z 0 10), .int (Z 0 11), .ref (q 13), .int (Z 0 13), .ref (q 15), .long g])), (q 2, .inl (T 0, 267, .inl (upd (mCp (Z 3) (Z 2) 0 ((n - 1) * 267) k) k ((Z 3) ((n - 1) * 267 + k))))), (q 3, .inl (T 0, 1602, .inl (Z 3))), (q 5, .inl (T 0, 267, .inl (Z 5))), (q 7, .inl (T 0, 60, .inl (Z 7))), (q 13, .inl (T 0, 8, .inl (Z 13))), (q 15, .inl (T 0, 3, .inl (Z 15)))] := hD
        refine lv_iinc (v := nI (k + 1)) (lv' := [(1, .int (nI (k + 1))), (0, .ref (q 0))]) hx hb dX8_undo_58 hl (k := 0) rfl (n_inc k 1 rfl) (by decide) rfl (fun ls hl => ?_)
        refine lv_goto (tgt := 30) hx hb dX8_undo_61 (by decide) ?_
        have e_6 : (upd (mCp (Z 3) (Z 2) 0 ((n - 1) * 267) k) k ((Z 3) ((n - 1) * 267 + k))) = mCp (Z 3) (Z 2) 0 ((n - 1) * 267) (k + 1) := (by simp only [mCp, Nat.zero_add])
        exact ih30 (k + 1) (by omega) (by omega) _ _ rfl e_6 _ _ hP hD hS _ (lv_sub hl [0, 1] rfl)
  exact L30 (267 + 1) 0 (by omega) (by omega) _ _ rfl rfl _ _ hP hD hS _ (lv_sub hl [0, 1] rfl)
set_option maxHeartbeats 4000000 in
set_option maxRecDepth 100000 in
theorem c_X8_undo_0 (l : Launch) (G : va_G) (T : Nat → ClassId) (sz : Nat) (q : Nat → Nat) (Z : Nat → Nat → Int32) (g : Int64) (hsv : Z 0 3 = nI 0) : RWi l yX8_undo wsX8_undo 1 0 0 G T sz (oX8 T q Z g) [.ref (q 0)] (nI 0) (oX8 T q (sc Z 0 (nI 1)) g) := by
  refine Met.ofW (cc := cX8_undo) (maxL := 2) (ret := (some .int)) (by decide) rfl ?_
  intro p e s m args below meth c s₁ B hml hv
  obtain ⟨ha, hsz, hP, hK, hD0, hE0⟩ := hv
  have hx := B.exec
  have hb := B.bytes
  have hr := B.returns
  have hlocks := B.notSynchronized
  have hts := atoms_spec (ws := wsX8_undo) B.pre
  have hown : s.vm.findClass RX8 = some m.cls := findClass_of_methodNamed B.named
  have cx : CallFix p m c cX8_undo 2 s args wsX8_undo RX8 := ⟨hx, hb, hml, hown, hts⟩
  subst hsz
  have hD := hD0.self (sz := s.heap.size)
  generalize hAe : va_A (oX8 T q Z g) s.heap.size = A at hD hE0 ⊢
  have hE : gE A s s.heap := hE0
  have hA : ∀ q : Nat, s.heap.size ≤ q → A q := fun q h => by rw [← hAe]; exact Or.inr h
  have hS : va_S A s.heap s.heap [] := va_S.rf
  refine w_entry ha (Nat.le_of_ble_eq_true rfl) (fun ls hl => ?_)
  refine w_q (fun Q0 hQ => ?_)
  have lk28 := hts (.fieldLink RX8 28 "WhistleTunesModel" "thrown" "I") (by decide +kernel)
  have hinX8 : ∀ w ∈ wsX80, w ∈ wsX8_undo := by decide +kernel
  have lk36 := hts (.fieldLink RX8 36 "WhistleTunesModel" "savedMany" "I") (by decide +kernel)
  have hl : lv_has ls 2 [(0, .ref (q 0))] := hl
  have hP : va_P G vwCl [(q 0, .inr (8, [.int (Z 0 0), .ref (q 2), .ref (q 3), .int (Z 0 3), .ref (q 5), .int (Z 0 5), .ref (q 7), .int (Z 0 7), .int (Z 0 8), .int (Z 0 9), .int (Z 0 10), .int (Z 0 11), .ref (q 13), .int (Z 0 13), .ref (q 15), .long g])), (q 2, .inl (T 0, 267, .inl (Z 2))), (q 3, .inl (T 0, 1602, .inl (Z 3))), (q 5, .inl (T 0, 267, .inl (Z 5))), (q 7, .inl (T 0, 60, .inl (Z 7))), (q 13, .inl (T 0, 8, .inl (Z 13))), (q 15, .inl (T 0, 3, .inl (Z 15)))] s.heap := hP
  have hD : va_D A [(q 0, .inr (8, [.int (Z 0 0), .ref (q 2), .ref (q 3), .int (Z 0 3), .ref (q 5), .int (Z 0 5), .ref (q 7), .int (Z 0 7), .int (Z 0 8), .int (Z 0 9), .int (Z 0 10), .int (Z 0 11), .ref (q 13), .int (Z 0 13), .ref (q 15), .long g])), (q 2, .inl (T 0, 267, .inl (Z 2))), (q 3, .inl (T 0, 1602, .inl (Z 3))), (q 5, .inl (T 0, 267, .inl (Z 5))), (q 7, .inl (T 0, 60, .inl (Z 7))), (q 13, .inl (T 0, 8, .inl (Z 13))), (q 15, .inl (T 0, 3, .inl (Z 15)))] := hD
  skip
  refine w_h (fun H locs hHe hLe => ?_)
  have hP : va_P G vwCl [(q 0, .inr (8, [.int (Z 0 0), .ref (q 2), .ref (q 3), .int (Z 0 3), .ref (q 5), .int (Z 0 5), .ref (q 7), .int (Z 0 7), .int (Z 0 8), .int (Z 0 9), .int (Z 0 10), .int (Z 0 11), .ref (q 13), .int (Z 0 13), .ref (q 15), .long g])), (q 2, .inl (T 0, 267, .inl (Z 2))), (q 3, .inl (T 0, 1602, .inl (Z 3))), (q 5, .inl (T 0, 267, .inl (Z 5))), (q 7, .inl (T 0, 60, .inl (Z 7))), (q 13, .inl (T 0, 8, .inl (Z 13))), (q 15, .inl (T 0, 3, .inl (Z 15)))] H := by rw [hHe]; exact hP
  have hS : va_S A s.heap H locs := by rw [hHe, hLe]; exact hS
  refine lv_aload_n hx hb dX8_undo_0 rfl (lv_at hl 0 rfl) ?_
  refine n_iconst hx hb 0 dX8_undo_1 (by decide) ?_
  refine va_put (D := G) (ci := 8) (v := .int (nI 0)) (ty := .int) (C := RX8) (T := TX8) (N := 16) hx hb hts hinX8 tyX8 tyX8_ok nmX8 hown hK hP hD hS 0 rfl rfl 0 (by decide) lk28 (fun _ h9 => h9) rfl (by decide +kernel) rfl rfl (Nat.le_of_ble_eq_true rfl) dX8_undo_2 (fun H locs hP hD hS => ?_)
  have hP : va_P G vwCl [(q 0, .inr (8, [.int (nI 0), .ref (q 2), .ref (q 3), .int (Z 0 3), .ref (q 5), .int (Z 0 5), .ref (q 7), .int (Z 0 7), .int (Z 0 8), .int (Z 0 9), .int (Z 0 10), .int (Z 0 11), .ref (q 13), .int (Z 0 13), .ref (q 15), .long g])), (q 2, .inl (T 0, 267, .inl (Z 2))), (q 3, .inl (T 0, 1602, .inl (Z 3))), (q 5, .inl (T 0, 267, .inl (Z 5))), (q 7, .inl (T 0, 60, .inl (Z 7))), (q 13, .inl (T 0, 8, .inl (Z 13))), (q 15, .inl (T 0, 3, .inl (Z 15)))] H := hP
  have hD : va_D A [(q 0, .inr (8, [.int (nI 0), .ref (q 2), .ref (q 3), .int (Z 0 3), .ref (q 5), .int (Z 0 5), .ref (q 7), .int (Z 0 7), .int (Z 0 8), .int (Z 0 9), .int (Z 0 10), .int (Z 0 11), .ref (q 13), .int (Z 0 13), .ref (q 15), .long g])), (q 2, .inl (T 0, 267, .inl (Z 2))), (q 3, .inl (T 0, 1602, .inl (Z 3))), (q 5, .inl (T 0, 267, .inl (Z 5))), (q 7, .inl (T 0, 60, .inl (Z 7))), (q 13, .inl (T 0, 8, .inl (Z 13))), (q 15, .inl (T 0, 3, .inl (Z 15)))] := hD
  refine lv_aload_n hx hb dX8_undo_5 rfl (lv_at hl 0 rfl) ?_
  refine va_get (D := G) (ci := 8) (v := .int (Z 0 3)) (C := RX8) (T := TX8) (N := 16) hx hb hts hinX8 hown hK hP 0 rfl rfl 3 (by decide) lk36 (fun _ h9 => h9) rfl dX8_undo_6 ?_
  refine n_top (y := nI 0) hsv ?_
  refine n_if_ne (a := 0) (tgt := 18) hx hb (by decide) dX8_undo_9 (by decide) (fun h9 => absurd h9 (by decide)) (fun c_1 => ?_)
  refine lv_aload_n hx hb dX8_undo_12 rfl (lv_at hl 0 rfl) ?_
  refine n_iconst hx hb 1 dX8_undo_13 (by decide) ?_
  refine k_rwV (As := [.int (nI 1)]) (rest := []) (wc := oX8 T q (sc Z 0 (nI 0)) g) (wr := []) (w1 := oX8 T q (sc (sc Z 0 (nI 0)) 0 (nI 1)) g) (d := 0) (mc := 0) (ms := 0) (v := nI 0) (isC := [0, 1, 2, 3, 4, 5, 6]) (isR := []) cx (c_X8_fails l G T H.size q (sc Z 0 (nI 0)) g (nI 1) ) (cwV 1 hts gX8_undo_X8_fails rfl rfl rfl (by decide +kernel) ⟨Nat.le_of_ble_eq_true rfl, Nat.le_of_ble_eq_true rfl⟩) ⟨hP, hD, hS, hA, hE, hK, rfl, rfl, rfl, rfl, by decide⟩ (va_recv hK hP (ci := 8) (q0 := 0) rfl rfl) rfl hl.1 rfl (Nat.le_of_ble_eq_true rfl) dX8_undo_14 ⟨Nat.le_of_ble_eq_true rfl, Nat.le_of_ble_eq_true rfl⟩ (fun H locs hP hD hS hz => ?_)
  have hP : va_P G vwCl [(q 0, .inr (8, [.int (nI 1), .ref (q 2), .ref (q 3), .int (Z 0 3), .ref (q 5), .int (Z 0 5), .ref (q 7), .int (Z 0 7), .int (Z 0 8), .int (Z 0 9), .int (Z 0 10), .int (Z 0 11), .ref (q 13), .int (Z 0 13), .ref (q 15), .long g])), (q 2, .inl (T 0, 267, .inl (Z 2))), (q 3, .inl (T 0, 1602, .inl (Z 3))), (q 5, .inl (T 0, 267, .inl (Z 5))), (q 7, .inl (T 0, 60, .inl (Z 7))), (q 13, .inl (T 0, 8, .inl (Z 13))), (q 15, .inl (T 0, 3, .inl (Z 15)))] H := hP
  have hD : va_D A [(q 0, .inr (8, [.int (nI 1), .ref (q 2), .ref (q 3), .int (Z 0 3), .ref (q 5), .int (Z 0 5), .ref (q 7), .int (Z 0 7), .int (Z 0 8), .int (Z 0 9), .int (Z 0 10), .int (Z 0 11), .ref (q 13), .int (Z 0 13), .ref (q 15), .long g])), (q 2, .inl (T 0, 267, .inl (Z 2))), (q 3, .inl (T 0, 1602, .inl (Z 3))), (q 5, .inl (T 0, 267, .inl (Z 5))), (q 7, .inl (T 0, 60, .inl (Z 7))), (q 13, .inl (T 0, 8, .inl (Z 13))), (q 15, .inl (T 0, 3, .inl (Z 15)))] := hD
  subst hQ
  have e_2 : (nI 1) = nI 1 := (by first | rfl | simp [bI])
  rw [e_2] at hP hD
  have hP9 : va_P G vwCl (oX8 T q (sc Z 0 (nI 1)) g) H := hP
  have hD9 : va_D A (oX8 T q (sc Z 0 (nI 1)) g) := hD
  exact e_rwi hx hb hr hlocks hS (by first | rfl | simp [bI]) hP9 hD9 dX8_undo_17
set_option maxHeartbeats 4000000 in
set_option maxRecDepth 100000 in
theorem c_X8_keep (l : Launch) (G : va_G) (T : Nat → ClassId) (sz : Nat) (q : Nat → Nat) (Z : Nat → Nat → Int32) (g : Int64) : RWi l yX8_keep wsX8_keep 0 0 0 G T sz (oX8 T q Z g) [.ref (q 0)] (Z 2 0) (oX8 T q (sa (sc (sc Z 0 (nI 0)) 5 (nI 1)) 5 (mCp (Z 2) (Z 5) 0 0 267)) g) := by
  refine Met.ofW (cc := cX8_keep) (maxL := 2) (ret := (some .int)) (by decide) rfl ?_
  intro p e s m args below meth c s₁ B hml hv
  obtain ⟨ha, hsz, hP, hK, hD0, hE0⟩ := hv
  have hx := B.exec
  have hb := B.bytes
  have hr := B.returns
  have hlocks := B.notSynchronized
  have hts := atoms_spec (ws := wsX8_keep) B.pre
  have hown : s.vm.findClass RX8 = some m.cls := findClass_of_methodNamed B.named
  have cx : CallFix p m c cX8_keep 2 s args wsX8_keep RX8 := ⟨hx, hb, hml, hown, hts⟩
  subst hsz
  have hD := hD0.self (sz := s.heap.size)
  generalize hAe : va_A (oX8 T q Z g) s.heap.size = A at hD hE0 ⊢
  have hE : gE A s s.heap := hE0
  have hA : ∀ q : Nat, s.heap.size ≤ q → A q := fun q h => by rw [← hAe]; exact Or.inr h
  have hS : va_S A s.heap s.heap [] := va_S.rf
  refine w_entry ha (Nat.le_of_ble_eq_true rfl) (fun ls hl => ?_)
  refine w_q (fun Q0 hQ => ?_)
  have lk28 := hts (.fieldLink RX8 28 "WhistleTunesModel" "thrown" "I") (by decide +kernel)
  have hinX8 : ∀ w ∈ wsX80, w ∈ wsX8_keep := by decide +kernel
  have lk43 := hts (.fieldLink RX8 43 "WhistleTunesModel" "hasSnapshot" "Z") (by decide +kernel)
  have lk7 := hts (.fieldLink RX8 7 "WhistleTunesModel" "state" "[I") (by decide +kernel)
  have lk16 := hts (.fieldLink RX8 16 "WhistleTunesModel" "snapshot" "[I") (by decide +kernel)
  have hl : lv_has ls 2 [(0, .ref (q 0))] := hl
  have hP : va_P G vwCl [(q 0, .inr (8, [.int (Z 0 0), .ref (q 2), .ref (q 3), .int (Z 0 3), .ref (q 5), .int (Z 0 5), .ref (q 7), .int (Z 0 7), .int (Z 0 8), .int (Z 0 9), .int (Z 0 10), .int (Z 0 11), .ref (q 13), .int (Z 0 13), .ref (q 15), .long g])), (q 2, .inl (T 0, 267, .inl (Z 2))), (q 3, .inl (T 0, 1602, .inl (Z 3))), (q 5, .inl (T 0, 267, .inl (Z 5))), (q 7, .inl (T 0, 60, .inl (Z 7))), (q 13, .inl (T 0, 8, .inl (Z 13))), (q 15, .inl (T 0, 3, .inl (Z 15)))] s.heap := hP
  have hD : va_D A [(q 0, .inr (8, [.int (Z 0 0), .ref (q 2), .ref (q 3), .int (Z 0 3), .ref (q 5), .int (Z 0 5), .ref (q 7), .int (Z 0 7), .int (Z 0 8), .int (Z 0 9), .int (Z 0 10), .int (Z 0 11), .ref (q 13), .int (Z 0 13), .ref (q 15), .long g])), (q 2, .inl (T 0, 267, .inl (Z 2))), (q 3, .inl (T 0, 1602, .inl (Z 3))), (q 5, .inl (T 0, 267, .inl (Z 5))), (q 7, .inl (T 0, 60, .inl (Z 7))), (q 13, .inl (T 0, 8, .inl (Z 13))), (q 15, .inl (T 0, 3, .inl (Z 15)))] := hD
  skip
  refine w_h (fun H locs hHe hLe => ?_)
  have hP : va_P G vwCl [(q 0, .inr (8, [.int (Z 0 0), .ref (q 2), .ref (q 3), .int (Z 0 3), .ref (q 5), .int (Z 0 5), .ref (q 7), .int (Z 0 7), .int (Z 0 8), .int (Z 0 9), .int (Z 0 10), .int (Z 0 11), .ref (q 13), .int (Z 0 13), .ref (q 15), .long g])), (q 2, .inl (T 0, 267, .inl (Z 2))), (q 3, .inl (T 0, 1602, .inl (Z 3))), (q 5, .inl (T 0, 267, .inl (Z 5))), (q 7, .inl (T 0, 60, .inl (Z 7))), (q 13, .inl (T 0, 8, .inl (Z 13))), (q 15, .inl (T 0, 3, .inl (Z 15)))] H := by rw [hHe]; exact hP
  have hS : va_S A s.heap H locs := by rw [hHe, hLe]; exact hS
  refine lv_aload_n hx hb dX8_keep_0 rfl (lv_at hl 0 rfl) ?_
  refine n_iconst hx hb 0 dX8_keep_1 (by decide) ?_
  refine va_put (D := G) (ci := 8) (v := .int (nI 0)) (ty := .int) (C := RX8) (T := TX8) (N := 16) hx hb hts hinX8 tyX8 tyX8_ok nmX8 hown hK hP hD hS 0 rfl rfl 0 (by decide) lk28 (fun _ h9 => h9) rfl (by decide +kernel) rfl rfl (Nat.le_of_ble_eq_true rfl) dX8_keep_2 (fun H locs hP hD hS => ?_)
  have hP : va_P G vwCl [(q 0, .inr (8, [.int (nI 0), .ref (q 2), .ref (q 3), .int (Z 0 3), .ref (q 5), .int (Z 0 5), .ref (q 7), .int (Z 0 7), .int (Z 0 8), .int (Z 0 9), .int (Z 0 10), .int (Z 0 11), .ref (q 13), .int (Z 0 13), .ref (q 15), .long g])), (q 2, .inl (T 0, 267, .inl (Z 2))), (q 3, .inl (T 0, 1602, .inl (Z 3))), (q 5, .inl (T 0, 267, .inl (Z 5))), (q 7, .inl (T 0, 60, .inl (Z 7))), (q 13, .inl (T 0, 8, .inl (Z 13))), (q 15, .inl (T 0, 3, .inl (Z 15)))] H := hP
  have hD : va_D A [(q 0, .inr (8, [.int (nI 0), .ref (q 2), .ref (q 3), .int (Z 0 3), .ref (q 5), .int (Z 0 5), .ref (q 7), .int (Z 0 7), .int (Z 0 8), .int (Z 0 9), .int (Z 0 10), .int (Z 0 11), .ref (q 13), .int (Z 0 13), .ref (q 15), .long g])), (q 2, .inl (T 0, 267, .inl (Z 2))), (q 3, .inl (T 0, 1602, .inl (Z 3))), (q 5, .inl (T 0, 267, .inl (Z 5))), (q 7, .inl (T 0, 60, .inl (Z 7))), (q 13, .inl (T 0, 8, .inl (Z 13))), (q 15, .inl (T 0, 3, .inl (Z 15)))] := hD
  refine n_iconst hx hb 0 dX8_keep_5 (by decide) ?_
  refine lv_istore_n (lv' := [(1, .int (nI 0)), (0, .ref (q 0))]) hx hb dX8_keep_6 rfl hl (by decide) rfl (fun ls hl => ?_)
  have L7 : ∀ (n9 k : Nat) (hk1 : k ≤ 267) (hk2 : 267 - k < n9) (x1 : Int32) (F_1 : Nat → Int32) (hx1 : x1 = nI k) (hF_1 : F_1 = mCp (Z 2) (Z 5) 0 0 k) (H : Heap) (locs : List Loc) (hP : va_P G vwCl [(q 0, .inr (8, [.int (nI 0), .ref (q 2), .ref (q 3), .int (Z 0 3), .ref (q 5), .int (Z 0 5), .ref (q 7), .int (Z 0 7), .int (Z 0 8), .int (Z 0 9), .int (Z 0 10), .int (Z 0 11), .ref (q 13), .int (Z 0 13), .ref (q 15), .long g])), (q 2, .inl (T 0, 267, .inl (Z 2))), (q 3, .inl (T 0, 1602, .inl (Z 3))), (q 5, .inl (T 0, 267, .inl F_1)), (q 7, .inl (T 0, 60, .inl (Z 7))), (q 13, .inl (T 0, 8, .inl (Z 13))), (q 15, .inl (T 0, 3, .inl (Z 15)))] H) (hD : va_D A [(q 0, .inr (8, [.int (nI 0), .ref (q 2), .ref (q 3), .int (Z 0 3), .ref (q 5), .int (Z 0 5), .ref (q 7), .int (Z 0 7), .int (Z 0 8), .int (Z 0 9), .int (Z 0 10), .int (Z 0 11), .ref (q 13), .int (Z 0 13), .ref (q 15), .long g])), (q 2, .inl (T 0, 267, .inl (Z 2))), (q 3, .inl (T 0, 1602, .inl (Z 3))), (q 5, .inl (T 0, 267, .inl F_1)), (q 7, .inl (T 0, 60, .inl (Z 7))), (q 13, .inl (T 0, 8, .inl (Z 13))), (q 15, .inl (T 0, 3, .inl (Z 15)))]) (hS : va_S A s.heap H locs) (ls : Array Slot) (hl : lv_has ls 2 [(1, .int x1), (0, .ref (q 0))]), W p l e (headSpec wsX8_keep (rmD 0 0 0)).room s m args below meth c H locs 0 0 Q0 (F0 m 7 ls []) := by
    intro n9
    induction n9 with
    | zero => intros; omega
    | succ n9 ih7 =>
      intro k hk1 hk2 x1 F_1 hx1 hF_1 H locs hP hD hS ls hl
      subst hx1 hF_1
      refine lv_iload_n hx hb dX8_keep_7 rfl (lv_at hl 0 rfl) ?_
      refine lv_sipush (v := nI 267) hx hb dX8_keep_8 (by decide) ?_
      refine n_icmp_ge (a := k) (b := 267) (tgt := 32) hx hb (by omega) (by decide) dX8_keep_11 (by decide) (fun c_2 => ?_) (fun c_3 => ?_)
      · skip
        obtain rfl : k = 267 := (by omega)
        refine lv_aload_n hx hb dX8_keep_32 rfl (lv_at hl 1 rfl) ?_
        refine n_iconst hx hb 1 dX8_keep_33 (by decide) ?_
        refine va_put (D := G) (ci := 8) (v := .int (nI 1)) (ty := .boolean) (C := RX8) (T := TX8) (N := 16) hx hb hts hinX8 tyX8 tyX8_ok nmX8 hown hK hP hD hS 0 rfl rfl 5 (by decide) lk43 (fun _ h9 => h9) rfl (by decide +kernel) (by first | rfl | exact nar_b _) (by first | rfl | exact fit_b _) (Nat.le_of_ble_eq_true rfl) dX8_keep_34 (fun H locs hP hD hS => ?_)
        have hP : va_P G vwCl [(q 0, .inr (8, [.int (nI 0), .ref (q 2), .ref (q 3), .int (Z 0 3), .ref (q 5), .int (nI 1), .ref (q 7), .int (Z 0 7), .int (Z 0 8), .int (Z 0 9), .int (Z 0 10), .int (Z 0 11), .ref (q 13), .int (Z 0 13), .ref (q 15), .long g])), (q 2, .inl (T 0, 267, .inl (Z 2))), (q 3, .inl (T 0, 1602, .inl (Z 3))), (q 5, .inl (T 0, 267, .inl (mCp (Z 2) (Z 5) 0 0 267))), (q 7, .inl (T 0, 60, .inl (Z 7))), (q 13, .inl (T 0, 8, .inl (Z 13))), (q 15, .inl (T 0, 3, .inl (Z 15)))] H := hP
        have hD : va_D A [(q 0, .inr (8, [.int (nI 0), .ref (q 2), .ref (q 3), .int (Z 0 3), .ref (q 5), .int (nI 1), .ref (q 7), .int (Z 0 7), .int (Z 0 8), .int (Z 0 9), .int (Z 0 10), .int (Z 0 11), .ref (q 13), .int (Z 0 13), .ref (q 15), .long g])), (q 2, .inl (T 0, 267, .inl (Z 2))), (q 3, .inl (T 0, 1602, .inl (Z 3))), (q 5, .inl (T 0, 267, .inl (mCp (Z 2) (Z 5) 0 0 267))), (q 7, .inl (T 0, 60, .inl (Z 7))), (q 13, .inl (T 0, 8, .inl (Z 13))), (q 15, .inl (T 0, 3, .inl (Z 15)))] := hD
        refine lv_aload_n hx hb dX8_keep_37 rfl (lv_at hl 1 rfl) ?_
        refine va_get (D := G) (ci := 8) (v := .ref (q 2)) (C := RX8) (T := TX8) (N := 16) hx hb hts hinX8 hown hK hP 0 rfl rfl 1 (by decide) lk7 (fun _ h9 => h9) rfl dX8_keep_38 ?_
        refine n_iconst hx hb 0 dX8_keep_41 (by decide) ?_
        refine n_iald hx hb hK hP 1 0 rfl rfl 0 (by decide) (by decide) dX8_keep_42 ?_
        subst hQ
        have hP9 : va_P G vwCl (oX8 T q (sa (sc (sc Z 0 (nI 0)) 5 (nI 1)) 5 (mCp (Z 2) (Z 5) 0 0 267)) g) H := hP
        have hD9 : va_D A (oX8 T q (sa (sc (sc Z 0 (nI 0)) 5 (nI 1)) 5 (mCp (Z 2) (Z 5) 0 0 267)) g) := hD
        exact e_rwi hx hb hr hlocks hS (by first | rfl | simp [bI, c_2]) hP9 hD9 dX8_keep_43
      · skip
        refine lv_aload_n hx hb dX8_keep_14 rfl (lv_at hl 1 rfl) ?_
        refine va_get (D := G) (ci := 8) (v := .ref (q 5)) (C := RX8) (T := TX8) (N := 16) hx hb hts hinX8 hown hK hP 0 rfl rfl 4 (by decide) lk16 (fun _ h9 => h9) rfl dX8_keep_15 ?_
        refine lv_iload_n hx hb dX8_keep_18 rfl (lv_at hl 0 rfl) ?_
        refine lv_aload_n hx hb dX8_keep_19 rfl (lv_at hl 1 rfl) ?_
        refine va_get (D := G) (ci := 8) (v := .ref (q 2)) (C := RX8) (T := TX8) (N := 16) hx hb hts hinX8 hown hK hP 0 rfl rfl 1 (by decide) lk7 (fun _ h9 => h9) rfl dX8_keep_20 ?_
        refine lv_iload_n hx hb dX8_keep_23 rfl (lv_at hl 0 rfl) ?_
        refine n_iald hx hb hK hP 1 0 rfl rfl k (by omega) (by decide) dX8_keep_24 ?_
        refine n_iast hx hb hK hP hD hS 3 0 rfl rfl k (by omega) (by decide) dX8_keep_25 (fun H locs hP hD hS => ?_)
        have hP : va_P G vwCl [(q 0, .inr (8, [.int (nI 0), .ref (q 2), .ref (q 3), .int (Z 0 3), .ref (q 5), .int (Z 0 5), .ref (q 7), .int (Z 0 7), .int (Z 0 8), .int (Z 0 9), .int (Z 0 10), .int (Z 0 11), .ref (q 13), .int (Z 0 13), .ref (q 15), .long g])), (q 2, .inl (T 0, 267, .inl (Z 2))), (q 3, .inl (T 0, 1602, .inl (Z 3))), (q 5, .inl (T 0, 267, .inl (upd (mCp (Z 2) (Z 5) 0 0 k) k ((Z 2) k)))), (q 7, .inl (T 0, 60, .inl (Z 7))), (q 13, .inl (T 0, 8, .inl (Z 13))), (q 15, .inl (T 0, 3, .inl (Z 15)))] H := hP
        have hD : va_D A [(q 0, .inr (8, [.int (nI 0), .ref (q 2), .ref (q 3), .int (Z 0 3), .ref (q 5), .int (Z 0 5), .ref (q 7), .int (Z 0 7), .int (Z 0 8), .int (Z 0 9), .int (Z 0 10), .int (Z 0 11), .ref (q 13), .int (Z 0 13), .ref (q 15), .long g])), (q 2, .inl (T 0, 267, .inl (Z 2))), (q 3, .inl (T 0, 1602, .inl (Z 3))), (q 5, .inl (T 0, 267, .inl (upd (mCp (Z 2) (Z 5) 0 0 k) k ((Z 2) k)))), (q 7, .inl (T 0, 60, .inl (Z 7))), (q 13, .inl (T 0, 8, .inl (Z 13))), (q 15, .inl (T 0, 3, .inl (Z 15)))] := hD
        refine lv_iinc (v := nI (k + 1)) (lv' := [(1, .int (nI (k + 1))), (0, .ref (q 0))]) hx hb dX8_keep_26 hl (k := 0) rfl (n_inc k 1 rfl) (by decide) rfl (fun ls hl => ?_)
        refine lv_goto (tgt := 7) hx hb dX8_keep_29 (by decide) ?_
        have e_4 : (upd (mCp (Z 2) (Z 5) 0 0 k) k ((Z 2) k)) = mCp (Z 2) (Z 5) 0 0 (k + 1) := (by simp only [mCp, Nat.zero_add])
        exact ih7 (k + 1) (by omega) (by omega) _ _ rfl e_4 _ _ hP hD hS _ (lv_sub hl [0, 1] rfl)
  exact L7 (267 + 1) 0 (by omega) (by omega) _ _ rfl rfl _ _ hP hD hS _ (lv_sub hl [0, 1] rfl)
set_option maxHeartbeats 4000000 in
set_option maxRecDepth 100000 in
theorem c_X8_restore (l : Launch) (G : va_G) (T : Nat → ClassId) (sz : Nat) (q : Nat → Nat) (Z : Nat → Nat → Int32) (g : Int64) (n : Nat) (hsv : Z 0 3 = nI n) (hn6 : n ≤ 6) (hsn : Z 0 5 = bI true) : RWi l yX8_restore wsX8_restore 1 0 0 G T sz (oX8 T q Z g) [.ref (q 0)] (mCp (Z 5) (Z 2) 0 0 267 0) (oX8 T q (sa (sa (sc (sc Z 0 (nI 0)) 3 (nI (mSvN n))) 2 (mCp (Z 5) (Z 2) 0 0 267)) 3 (mSvF (Z 3) (Z 2) n)) g) := by
  refine Met.ofW (cc := cX8_restore) (maxL := 2) (ret := (some .int)) (by decide) rfl ?_
  intro p e s m args below meth c s₁ B hml hv
  obtain ⟨ha, hsz, hP, hK, hD0, hE0⟩ := hv
  have hx := B.exec
  have hb := B.bytes
  have hr := B.returns
  have hlocks := B.notSynchronized
  have hts := atoms_spec (ws := wsX8_restore) B.pre
  have hown : s.vm.findClass RX8 = some m.cls := findClass_of_methodNamed B.named
  have cx : CallFix p m c cX8_restore 2 s args wsX8_restore RX8 := ⟨hx, hb, hml, hown, hts⟩
  subst hsz
  have hD := hD0.self (sz := s.heap.size)
  generalize hAe : va_A (oX8 T q Z g) s.heap.size = A at hD hE0 ⊢
  have hE : gE A s s.heap := hE0
  have hA : ∀ q : Nat, s.heap.size ≤ q → A q := fun q h => by rw [← hAe]; exact Or.inr h
  have hS : va_S A s.heap s.heap [] := va_S.rf
  refine w_entry ha (Nat.le_of_ble_eq_true rfl) (fun ls hl => ?_)
  refine w_q (fun Q0 hQ => ?_)
  have lk28 := hts (.fieldLink RX8 28 "WhistleTunesModel" "thrown" "I") (by decide +kernel)
  have hinX8 : ∀ w ∈ wsX80, w ∈ wsX8_restore := by decide +kernel
  have lk43 := hts (.fieldLink RX8 43 "WhistleTunesModel" "hasSnapshot" "Z") (by decide +kernel)
  have lk7 := hts (.fieldLink RX8 7 "WhistleTunesModel" "state" "[I") (by decide +kernel)
  have lk16 := hts (.fieldLink RX8 16 "WhistleTunesModel" "snapshot" "[I") (by decide +kernel)
  have hl : lv_has ls 2 [(0, .ref (q 0))] := hl
  have hP : va_P G vwCl [(q 0, .inr (8, [.int (Z 0 0), .ref (q 2), .ref (q 3), .int (Z 0 3), .ref (q 5), .int (Z 0 5), .ref (q 7), .int (Z 0 7), .int (Z 0 8), .int (Z 0 9), .int (Z 0 10), .int (Z 0 11), .ref (q 13), .int (Z 0 13), .ref (q 15), .long g])), (q 2, .inl (T 0, 267, .inl (Z 2))), (q 3, .inl (T 0, 1602, .inl (Z 3))), (q 5, .inl (T 0, 267, .inl (Z 5))), (q 7, .inl (T 0, 60, .inl (Z 7))), (q 13, .inl (T 0, 8, .inl (Z 13))), (q 15, .inl (T 0, 3, .inl (Z 15)))] s.heap := hP
  have hD : va_D A [(q 0, .inr (8, [.int (Z 0 0), .ref (q 2), .ref (q 3), .int (Z 0 3), .ref (q 5), .int (Z 0 5), .ref (q 7), .int (Z 0 7), .int (Z 0 8), .int (Z 0 9), .int (Z 0 10), .int (Z 0 11), .ref (q 13), .int (Z 0 13), .ref (q 15), .long g])), (q 2, .inl (T 0, 267, .inl (Z 2))), (q 3, .inl (T 0, 1602, .inl (Z 3))), (q 5, .inl (T 0, 267, .inl (Z 5))), (q 7, .inl (T 0, 60, .inl (Z 7))), (q 13, .inl (T 0, 8, .inl (Z 13))), (q 15, .inl (T 0, 3, .inl (Z 15)))] := hD
  skip
  refine w_h (fun H locs hHe hLe => ?_)
  have hP : va_P G vwCl [(q 0, .inr (8, [.int (Z 0 0), .ref (q 2), .ref (q 3), .int (Z 0 3), .ref (q 5), .int (Z 0 5), .ref (q 7), .int (Z 0 7), .int (Z 0 8), .int (Z 0 9), .int (Z 0 10), .int (Z 0 11), .ref (q 13), .int (Z 0 13), .ref (q 15), .long g])), (q 2, .inl (T 0, 267, .inl (Z 2))), (q 3, .inl (T 0, 1602, .inl (Z 3))), (q 5, .inl (T 0, 267, .inl (Z 5))), (q 7, .inl (T 0, 60, .inl (Z 7))), (q 13, .inl (T 0, 8, .inl (Z 13))), (q 15, .inl (T 0, 3, .inl (Z 15)))] H := by rw [hHe]; exact hP
  have hS : va_S A s.heap H locs := by rw [hHe, hLe]; exact hS
  refine lv_aload_n hx hb dX8_restore_0 rfl (lv_at hl 0 rfl) ?_
  refine n_iconst hx hb 0 dX8_restore_1 (by decide) ?_
  refine va_put (D := G) (ci := 8) (v := .int (nI 0)) (ty := .int) (C := RX8) (T := TX8) (N := 16) hx hb hts hinX8 tyX8 tyX8_ok nmX8 hown hK hP hD hS 0 rfl rfl 0 (by decide) lk28 (fun _ h9 => h9) rfl (by decide +kernel) rfl rfl (Nat.le_of_ble_eq_true rfl) dX8_restore_2 (fun H locs hP hD hS => ?_)
  have hP : va_P G vwCl [(q 0, .inr (8, [.int (nI 0), .ref (q 2), .ref (q 3), .int (Z 0 3), .ref (q 5), .int (Z 0 5), .ref (q 7), .int (Z 0 7), .int (Z 0 8), .int (Z 0 9), .int (Z 0 10), .int (Z 0 11), .ref (q 13), .int (Z 0 13), .ref (q 15), .long g])), (q 2, .inl (T 0, 267, .inl (Z 2))), (q 3, .inl (T 0, 1602, .inl (Z 3))), (q 5, .inl (T 0, 267, .inl (Z 5))), (q 7, .inl (T 0, 60, .inl (Z 7))), (q 13, .inl (T 0, 8, .inl (Z 13))), (q 15, .inl (T 0, 3, .inl (Z 15)))] H := hP
  have hD : va_D A [(q 0, .inr (8, [.int (nI 0), .ref (q 2), .ref (q 3), .int (Z 0 3), .ref (q 5), .int (Z 0 5), .ref (q 7), .int (Z 0 7), .int (Z 0 8), .int (Z 0 9), .int (Z 0 10), .int (Z 0 11), .ref (q 13), .int (Z 0 13), .ref (q 15), .long g])), (q 2, .inl (T 0, 267, .inl (Z 2))), (q 3, .inl (T 0, 1602, .inl (Z 3))), (q 5, .inl (T 0, 267, .inl (Z 5))), (q 7, .inl (T 0, 60, .inl (Z 7))), (q 13, .inl (T 0, 8, .inl (Z 13))), (q 15, .inl (T 0, 3, .inl (Z 15)))] := hD
  refine lv_aload_n hx hb dX8_restore_5 rfl (lv_at hl 0 rfl) ?_
  refine va_get (D := G) (ci := 8) (v := .int (Z 0 5)) (C := RX8) (T := TX8) (N := 16) hx hb hts hinX8 hown hK hP 0 rfl rfl 5 (by decide) lk43 (fun _ h9 => h9) rfl dX8_restore_6 ?_
  refine n_top (y := bI true) hsn ?_
  refine b_if_ne (b := true) (tgt := 18) hx hb dX8_restore_9 (by decide) (fun c_1 => ?_) (fun c_2 => by exfalso; cases c_2)
  refine lv_aload_n hx hb dX8_restore_18 rfl (lv_at hl 0 rfl) ?_
  refine k_rvV (As := []) (rest := []) (wc := oX8 T q (sc Z 0 (nI 0)) g) (wr := []) (w1 := oX8 T q (sa (sc (sc Z 0 (nI 0)) 3 (nI (mSvN n))) 3 (mSvF ((sc Z 0 (nI 0)) 3) ((sc Z 0 (nI 0)) 2) n)) g) (d := 0) (mc := 0) (ms := 0) (isC := [0, 1, 2, 3, 4, 5, 6]) (isR := []) cx (c_X8_save l G T H.size q (sc Z 0 (nI 0)) g n (by first | assumption | rfl | omega) (by omega)) (cwV 0 hts gX8_restore_X8_save rfl rfl rfl (by decide +kernel) ⟨Nat.le_of_ble_eq_true rfl, Nat.le_of_ble_eq_true rfl⟩) ⟨hP, hD, hS, hA, hE, hK, rfl, rfl, rfl, rfl, by decide⟩ (va_recv hK hP (ci := 8) (q0 := 0) rfl rfl) rfl hl.1 rfl (Nat.le_of_ble_eq_true rfl) dX8_restore_19 ⟨Nat.le_of_ble_eq_true rfl, Nat.le_of_ble_eq_true rfl⟩ (fun H locs hP hD hS hz => ?_)
  have hP : va_P G vwCl [(q 0, .inr (8, [.int (nI 0), .ref (q 2), .ref (q 3), .int (nI (mSvN n)), .ref (q 5), .int (Z 0 5), .ref (q 7), .int (Z 0 7), .int (Z 0 8), .int (Z 0 9), .int (Z 0 10), .int (Z 0 11), .ref (q 13), .int (Z 0 13), .ref (q 15), .long g])), (q 2, .inl (T 0, 267, .inl (Z 2))), (q 3, .inl (T 0, 1602, .inl (mSvF ((Z 3)) ((Z 2)) n))), (q 5, .inl (T 0, 267, .inl (Z 5))), (q 7, .inl (T 0, 60, .inl (Z 7))), (q 13, .inl (T 0, 8, .inl (Z 13))), (q 15, .inl (T 0, 3, .inl (Z 15)))] H := hP
  have hD : va_D A [(q 0, .inr (8, [.int (nI 0), .ref (q 2), .ref (q 3), .int (nI (mSvN n)), .ref (q 5), .int (Z 0 5), .ref (q 7), .int (Z 0 7), .int (Z 0 8), .int (Z 0 9), .int (Z 0 10), .int (Z 0 11), .ref (q 13), .int (Z 0 13), .ref (q 15), .long g])), (q 2, .inl (T 0, 267, .inl (Z 2))), (q 3, .inl (T 0, 1602, .inl (mSvF ((Z 3)) ((Z 2)) n))), (q 5, .inl (T 0, 267, .inl (Z 5))), (q 7, .inl (T 0, 60, .inl (Z 7))), (q 13, .inl (T 0, 8, .inl (Z 13))), (q 15, .inl (T 0, 3, .inl (Z 15)))] := hD
  refine n_iconst hx hb 0 dX8_restore_22 (by decide) ?_
  refine lv_istore_n (lv' := [(1, .int (nI 0)), (0, .ref (q 0))]) hx hb dX8_restore_23 rfl hl (by decide) rfl (fun ls hl => ?_)
  have L24 : ∀ (n9 k : Nat) (hk1 : k ≤ 267) (hk2 : 267 - k < n9) (x1 : Int32) (F_3 : Nat → Int32) (hx1 : x1 = nI k) (hF_3 : F_3 = mCp (Z 5) (Z 2) 0 0 k) (H : Heap) (locs : List Loc) (hP : va_P G vwCl [(q 0, .inr (8, [.int (nI 0), .ref (q 2), .ref (q 3), .int (nI (mSvN n)), .ref (q 5), .int (Z 0 5), .ref (q 7), .int (Z 0 7), .int (Z 0 8), .int (Z 0 9), .int (Z 0 10), .int (Z 0 11), .ref (q 13), .int (Z 0 13), .ref (q 15), .long g])), (q 2, .inl (T 0, 267, .inl F_3)), (q 3, .inl (T 0, 1602, .inl (mSvF ((Z 3)) ((Z 2)) n))), (q 5, .inl (T 0, 267, .inl (Z 5))), (q 7, .inl (T 0, 60, .inl (Z 7))), (q 13, .inl (T 0, 8, .inl (Z 13))), (q 15, .inl (T 0, 3, .inl (Z 15)))] H) (hD : va_D A [(q 0, .inr (8, [.int (nI 0), .ref (q 2), .ref (q 3), .int (nI (mSvN n)), .ref (q 5), .int (Z 0 5), .ref (q 7), .int (Z 0 7), .int (Z 0 8), .int (Z 0 9), .int (Z 0 10), .int (Z 0 11), .ref (q 13), .int (Z 0 13), .ref (q 15), .long g])), (q 2, .inl (T 0, 267, .inl F_3)), (q 3, .inl (T 0, 1602, .inl (mSvF ((Z 3)) ((Z 2)) n))), (q 5, .inl (T 0, 267, .inl (Z 5))), (q 7, .inl (T 0, 60, .inl (Z 7))), (q 13, .inl (T 0, 8, .inl (Z 13))), (q 15, .inl (T 0, 3, .inl (Z 15)))]) (hS : va_S A s.heap H locs) (ls : Array Slot) (hl : lv_has ls 2 [(1, .int x1), (0, .ref (q 0))]), W p l e (headSpec wsX8_restore (rmD 1 0 0)).room s m args below meth c H locs 0 0 Q0 (F0 m 24 ls []) := by
    intro n9
    induction n9 with
    | zero => intros; omega
    | succ n9 ih24 =>
      intro k hk1 hk2 x1 F_3 hx1 hF_3 H locs hP hD hS ls hl
      subst hx1 hF_3
      refine lv_iload_n hx hb dX8_restore_24 rfl (lv_at hl 0 rfl) ?_
      refine lv_sipush (v := nI 267) hx hb dX8_restore_25 (by decide) ?_
      refine n_icmp_ge (a := k) (b := 267) (tgt := 49) hx hb (by omega) (by decide) dX8_restore_28 (by decide) (fun c_4 => ?_) (fun c_5 => ?_)
      · skip
        obtain rfl : k = 267 := (by omega)
        refine lv_aload_n hx hb dX8_restore_49 rfl (lv_at hl 1 rfl) ?_
        refine va_get (D := G) (ci := 8) (v := .ref (q 2)) (C := RX8) (T := TX8) (N := 16) hx hb hts hinX8 hown hK hP 0 rfl rfl 1 (by decide) lk7 (fun _ h9 => h9) rfl dX8_restore_50 ?_
        refine n_iconst hx hb 0 dX8_restore_53 (by decide) ?_
        refine n_iald hx hb hK hP 1 0 rfl rfl 0 (by decide) (by decide) dX8_restore_54 ?_
        subst hQ
        have e_6 : (mSvF ((Z 3)) ((Z 2)) n) = mSvF (Z 3) (Z 2) n := (by first | rfl | simp [bI, c_1, c_4])
        rw [e_6] at hP hD
        have hP9 : va_P G vwCl (oX8 T q (sa (sa (sc (sc Z 0 (nI 0)) 3 (nI (mSvN n))) 2 (mCp (Z 5) (Z 2) 0 0 267)) 3 (mSvF (Z 3) (Z 2) n)) g) H := hP
        have hD9 : va_D A (oX8 T q (sa (sa (sc (sc Z 0 (nI 0)) 3 (nI (mSvN n))) 2 (mCp (Z 5) (Z 2) 0 0 267)) 3 (mSvF (Z 3) (Z 2) n)) g) := hD
        exact e_rwi hx hb hr hlocks hS (by first | rfl | simp [bI, c_1, c_4]) hP9 hD9 dX8_restore_55
      · skip
        refine lv_aload_n hx hb dX8_restore_31 rfl (lv_at hl 1 rfl) ?_
        refine va_get (D := G) (ci := 8) (v := .ref (q 2)) (C := RX8) (T := TX8) (N := 16) hx hb hts hinX8 hown hK hP 0 rfl rfl 1 (by decide) lk7 (fun _ h9 => h9) rfl dX8_restore_32 ?_
        refine lv_iload_n hx hb dX8_restore_35 rfl (lv_at hl 0 rfl) ?_
        refine lv_aload_n hx hb dX8_restore_36 rfl (lv_at hl 1 rfl) ?_
        refine va_get (D := G) (ci := 8) (v := .ref (q 5)) (C := RX8) (T := TX8) (N := 16) hx hb hts hinX8 hown hK hP 0 rfl rfl 4 (by decide) lk16 (fun _ h9 => h9) rfl dX8_restore_37 ?_
        refine lv_iload_n hx hb dX8_restore_40 rfl (lv_at hl 0 rfl) ?_
        refine n_iald hx hb hK hP 3 0 rfl rfl k (by omega) (by decide) dX8_restore_41 ?_
        refine n_iast hx hb hK hP hD hS 1 0 rfl rfl k (by omega) (by decide) dX8_restore_42 (fun H locs hP hD hS => ?_)
        have hP : va_P G vwCl [(q 0, .inr (8, [.int (nI 0), .ref (q 2), .ref (q 3), .int (nI (mSvN n)), .ref (q 5), .int (Z 0 5), .ref (q 7), .int (Z 0 7), .int (Z 0 8), .int (Z 0 9), .int (Z 0 10), .int (Z 0 11), .ref (q 13), .int (Z 0 13), .ref (q 15), .long g])), (q 2, .inl (T 0, 267, .inl (upd (mCp (Z 5) (Z 2) 0 0 k) k ((Z 5) k)))), (q 3, .inl (T 0, 1602, .inl (mSvF ((Z 3)) ((Z 2)) n))), (q 5, .inl (T 0, 267, .inl (Z 5))), (q 7, .inl (T 0, 60, .inl (Z 7))), (q 13, .inl (T 0, 8, .inl (Z 13))), (q 15, .inl (T 0, 3, .inl (Z 15)))] H := hP
        have hD : va_D A [(q 0, .inr (8, [.int (nI 0), .ref (q 2), .ref (q 3), .int (nI (mSvN n)), .ref (q 5), .int (Z 0 5), .ref (q 7), .int (Z 0 7), .int (Z 0 8), .int (Z 0 9), .int (Z 0 10), .int (Z 0 11), .ref (q 13), .int (Z 0 13), .ref (q 15), .long g])), (q 2, .inl (T 0, 267, .inl (upd (mCp (Z 5) (Z 2) 0 0 k) k ((Z 5) k)))), (q 3, .inl (T 0, 1602, .inl (mSvF ((Z 3)) ((Z 2)) n))), (q 5, .inl (T 0, 267, .inl (Z 5))), (q 7, .inl (T 0, 60, .inl (Z 7))), (q 13, .inl (T 0, 8, .inl (Z 13))), (q 15, .inl (T 0, 3, .inl (Z 15)))] := hD
        refine lv_iinc (v := nI (k + 1)) (lv' := [(1, .int (nI (k + 1))), (0, .ref (q 0))]) hx hb dX8_restore_43 hl (k := 0) rfl (n_inc k 1 rfl) (by decide) rfl (fun ls hl => ?_)
        refine lv_goto (tgt := 24) hx hb dX8_restore_46 (by decide) ?_
        have e_7 : (upd (mCp (Z 5) (Z 2) 0 0 k) k ((Z 5) k)) = mCp (Z 5) (Z 2) 0 0 (k + 1) := (by simp only [mCp, Nat.zero_add])
        exact ih24 (k + 1) (by omega) (by omega) _ _ rfl e_7 _ _ hP hD hS _ (lv_sub hl [0, 1] rfl)
  exact L24 (267 + 1) 0 (by omega) (by omega) _ _ rfl rfl _ _ hP hD hS _ (lv_sub hl [0, 1] rfl)
set_option maxHeartbeats 4000000 in
set_option maxRecDepth 100000 in
theorem c_X8_restore_0 (l : Launch) (G : va_G) (T : Nat → ClassId) (sz : Nat) (q : Nat → Nat) (Z : Nat → Nat → Int32) (g : Int64) (hsn : Z 0 5 = bI false) : RWi l yX8_restore wsX8_restore 1 0 0 G T sz (oX8 T q Z g) [.ref (q 0)] (nI 0) (oX8 T q (sc Z 0 (nI 1)) g) := by
  refine Met.ofW (cc := cX8_restore) (maxL := 2) (ret := (some .int)) (by decide) rfl ?_
  intro p e s m args below meth c s₁ B hml hv
  obtain ⟨ha, hsz, hP, hK, hD0, hE0⟩ := hv
  have hx := B.exec
  have hb := B.bytes
  have hr := B.returns
  have hlocks := B.notSynchronized
  have hts := atoms_spec (ws := wsX8_restore) B.pre
  have hown : s.vm.findClass RX8 = some m.cls := findClass_of_methodNamed B.named
  have cx : CallFix p m c cX8_restore 2 s args wsX8_restore RX8 := ⟨hx, hb, hml, hown, hts⟩
  subst hsz
  have hD := hD0.self (sz := s.heap.size)
  generalize hAe : va_A (oX8 T q Z g) s.heap.size = A at hD hE0 ⊢
  have hE : gE A s s.heap := hE0
  have hA : ∀ q : Nat, s.heap.size ≤ q → A q := fun q h => by rw [← hAe]; exact Or.inr h
  have hS : va_S A s.heap s.heap [] := va_S.rf
  refine w_entry ha (Nat.le_of_ble_eq_true rfl) (fun ls hl => ?_)
  refine w_q (fun Q0 hQ => ?_)
  have lk28 := hts (.fieldLink RX8 28 "WhistleTunesModel" "thrown" "I") (by decide +kernel)
  have hinX8 : ∀ w ∈ wsX80, w ∈ wsX8_restore := by decide +kernel
  have lk43 := hts (.fieldLink RX8 43 "WhistleTunesModel" "hasSnapshot" "Z") (by decide +kernel)
  have hl : lv_has ls 2 [(0, .ref (q 0))] := hl
  have hP : va_P G vwCl [(q 0, .inr (8, [.int (Z 0 0), .ref (q 2), .ref (q 3), .int (Z 0 3), .ref (q 5), .int (Z 0 5), .ref (q 7), .int (Z 0 7), .int (Z 0 8), .int (Z 0 9), .int (Z 0 10), .int (Z 0 11), .ref (q 13), .int (Z 0 13), .ref (q 15), .long g])), (q 2, .inl (T 0, 267, .inl (Z 2))), (q 3, .inl (T 0, 1602, .inl (Z 3))), (q 5, .inl (T 0, 267, .inl (Z 5))), (q 7, .inl (T 0, 60, .inl (Z 7))), (q 13, .inl (T 0, 8, .inl (Z 13))), (q 15, .inl (T 0, 3, .inl (Z 15)))] s.heap := hP
  have hD : va_D A [(q 0, .inr (8, [.int (Z 0 0), .ref (q 2), .ref (q 3), .int (Z 0 3), .ref (q 5), .int (Z 0 5), .ref (q 7), .int (Z 0 7), .int (Z 0 8), .int (Z 0 9), .int (Z 0 10), .int (Z 0 11), .ref (q 13), .int (Z 0 13), .ref (q 15), .long g])), (q 2, .inl (T 0, 267, .inl (Z 2))), (q 3, .inl (T 0, 1602, .inl (Z 3))), (q 5, .inl (T 0, 267, .inl (Z 5))), (q 7, .inl (T 0, 60, .inl (Z 7))), (q 13, .inl (T 0, 8, .inl (Z 13))), (q 15, .inl (T 0, 3, .inl (Z 15)))] := hD
  skip
  refine w_h (fun H locs hHe hLe => ?_)
  have hP : va_P G vwCl [(q 0, .inr (8, [.int (Z 0 0), .ref (q 2), .ref (q 3), .int (Z 0 3), .ref (q 5), .int (Z 0 5), .ref (q 7), .int (Z 0 7), .int (Z 0 8), .int (Z 0 9), .int (Z 0 10), .int (Z 0 11), .ref (q 13), .int (Z 0 13), .ref (q 15), .long g])), (q 2, .inl (T 0, 267, .inl (Z 2))), (q 3, .inl (T 0, 1602, .inl (Z 3))), (q 5, .inl (T 0, 267, .inl (Z 5))), (q 7, .inl (T 0, 60, .inl (Z 7))), (q 13, .inl (T 0, 8, .inl (Z 13))), (q 15, .inl (T 0, 3, .inl (Z 15)))] H := by rw [hHe]; exact hP
  have hS : va_S A s.heap H locs := by rw [hHe, hLe]; exact hS
  refine lv_aload_n hx hb dX8_restore_0 rfl (lv_at hl 0 rfl) ?_
  refine n_iconst hx hb 0 dX8_restore_1 (by decide) ?_
  refine va_put (D := G) (ci := 8) (v := .int (nI 0)) (ty := .int) (C := RX8) (T := TX8) (N := 16) hx hb hts hinX8 tyX8 tyX8_ok nmX8 hown hK hP hD hS 0 rfl rfl 0 (by decide) lk28 (fun _ h9 => h9) rfl (by decide +kernel) rfl rfl (Nat.le_of_ble_eq_true rfl) dX8_restore_2 (fun H locs hP hD hS => ?_)
  have hP : va_P G vwCl [(q 0, .inr (8, [.int (nI 0), .ref (q 2), .ref (q 3), .int (Z 0 3), .ref (q 5), .int (Z 0 5), .ref (q 7), .int (Z 0 7), .int (Z 0 8), .int (Z 0 9), .int (Z 0 10), .int (Z 0 11), .ref (q 13), .int (Z 0 13), .ref (q 15), .long g])), (q 2, .inl (T 0, 267, .inl (Z 2))), (q 3, .inl (T 0, 1602, .inl (Z 3))), (q 5, .inl (T 0, 267, .inl (Z 5))), (q 7, .inl (T 0, 60, .inl (Z 7))), (q 13, .inl (T 0, 8, .inl (Z 13))), (q 15, .inl (T 0, 3, .inl (Z 15)))] H := hP
  have hD : va_D A [(q 0, .inr (8, [.int (nI 0), .ref (q 2), .ref (q 3), .int (Z 0 3), .ref (q 5), .int (Z 0 5), .ref (q 7), .int (Z 0 7), .int (Z 0 8), .int (Z 0 9), .int (Z 0 10), .int (Z 0 11), .ref (q 13), .int (Z 0 13), .ref (q 15), .long g])), (q 2, .inl (T 0, 267, .inl (Z 2))), (q 3, .inl (T 0, 1602, .inl (Z 3))), (q 5, .inl (T 0, 267, .inl (Z 5))), (q 7, .inl (T 0, 60, .inl (Z 7))), (q 13, .inl (T 0, 8, .inl (Z 13))), (q 15, .inl (T 0, 3, .inl (Z 15)))] := hD
  refine lv_aload_n hx hb dX8_restore_5 rfl (lv_at hl 0 rfl) ?_
  refine va_get (D := G) (ci := 8) (v := .int (Z 0 5)) (C := RX8) (T := TX8) (N := 16) hx hb hts hinX8 hown hK hP 0 rfl rfl 5 (by decide) lk43 (fun _ h9 => h9) rfl dX8_restore_6 ?_
  refine n_top (y := bI false) hsn ?_
  refine b_if_ne (b := false) (tgt := 18) hx hb dX8_restore_9 (by decide) (fun c_1 => by exfalso; cases c_1) (fun c_2 => ?_)
  refine lv_aload_n hx hb dX8_restore_12 rfl (lv_at hl 0 rfl) ?_
  refine n_iconst hx hb 1 dX8_restore_13 (by decide) ?_
  refine k_rwV (As := [.int (nI 1)]) (rest := []) (wc := oX8 T q (sc Z 0 (nI 0)) g) (wr := []) (w1 := oX8 T q (sc (sc Z 0 (nI 0)) 0 (nI 1)) g) (d := 0) (mc := 0) (ms := 0) (v := nI 0) (isC := [0, 1, 2, 3, 4, 5, 6]) (isR := []) cx (c_X8_fails l G T H.size q (sc Z 0 (nI 0)) g (nI 1) ) (cwV 1 hts gX8_restore_X8_fails rfl rfl rfl (by decide +kernel) ⟨Nat.le_of_ble_eq_true rfl, Nat.le_of_ble_eq_true rfl⟩) ⟨hP, hD, hS, hA, hE, hK, rfl, rfl, rfl, rfl, by decide⟩ (va_recv hK hP (ci := 8) (q0 := 0) rfl rfl) rfl hl.1 rfl (Nat.le_of_ble_eq_true rfl) dX8_restore_14 ⟨Nat.le_of_ble_eq_true rfl, Nat.le_of_ble_eq_true rfl⟩ (fun H locs hP hD hS hz => ?_)
  have hP : va_P G vwCl [(q 0, .inr (8, [.int (nI 1), .ref (q 2), .ref (q 3), .int (Z 0 3), .ref (q 5), .int (Z 0 5), .ref (q 7), .int (Z 0 7), .int (Z 0 8), .int (Z 0 9), .int (Z 0 10), .int (Z 0 11), .ref (q 13), .int (Z 0 13), .ref (q 15), .long g])), (q 2, .inl (T 0, 267, .inl (Z 2))), (q 3, .inl (T 0, 1602, .inl (Z 3))), (q 5, .inl (T 0, 267, .inl (Z 5))), (q 7, .inl (T 0, 60, .inl (Z 7))), (q 13, .inl (T 0, 8, .inl (Z 13))), (q 15, .inl (T 0, 3, .inl (Z 15)))] H := hP
  have hD : va_D A [(q 0, .inr (8, [.int (nI 1), .ref (q 2), .ref (q 3), .int (Z 0 3), .ref (q 5), .int (Z 0 5), .ref (q 7), .int (Z 0 7), .int (Z 0 8), .int (Z 0 9), .int (Z 0 10), .int (Z 0 11), .ref (q 13), .int (Z 0 13), .ref (q 15), .long g])), (q 2, .inl (T 0, 267, .inl (Z 2))), (q 3, .inl (T 0, 1602, .inl (Z 3))), (q 5, .inl (T 0, 267, .inl (Z 5))), (q 7, .inl (T 0, 60, .inl (Z 7))), (q 13, .inl (T 0, 8, .inl (Z 13))), (q 15, .inl (T 0, 3, .inl (Z 15)))] := hD
  subst hQ
  have e_3 : (nI 1) = nI 1 := (by first | rfl | simp [bI, c_2])
  rw [e_3] at hP hD
  have hP9 : va_P G vwCl (oX8 T q (sc Z 0 (nI 1)) g) H := hP
  have hD9 : va_D A (oX8 T q (sc Z 0 (nI 1)) g) := hD
  exact e_rwi hx hb hr hlocks hS (by first | rfl | simp [bI, c_2]) hP9 hD9 dX8_restore_17
set_option maxHeartbeats 4000000 in
set_option maxRecDepth 100000 in
theorem c_X8_addNote (l : Launch) (G : va_G) (T : Nat → ClassId) (sz : Nat) (q : Nat → Nat) (Z : Nat → Nat → Int32) (g : Int64) (x : Int32) (n : Nat) (hmany : Z 0 13 = nI n) (hn9 : n ≤ 9) : RWv l yX8_addNote wsX8_addNote 0 0 0 G T sz (oX8 T q Z g) [.ref (q 0), .int x] (oX8 T q (sa (sc Z 13 (nI (mAdN n))) 13 (mAdT (Z 13) n x)) g) := by
  refine Met.ofW (cc := cX8_addNote) (maxL := 2) (ret := none) (by decide) rfl ?_
  intro p e s m args below meth c s₁ B hml hv
  obtain ⟨ha, hsz, hP, hK, hD0, hE0⟩ := hv
  have hx := B.exec
  have hb := B.bytes
  have hr := B.returns
  have hlocks := B.notSynchronized
  have hts := atoms_spec (ws := wsX8_addNote) B.pre
  have hown : s.vm.findClass RX8 = some m.cls := findClass_of_methodNamed B.named
  have cx : CallFix p m c cX8_addNote 2 s args wsX8_addNote RX8 := ⟨hx, hb, hml, hown, hts⟩
  subst hsz
  have hD := hD0.self (sz := s.heap.size)
  generalize hAe : va_A (oX8 T q Z g) s.heap.size = A at hD hE0 ⊢
  have hE : gE A s s.heap := hE0
  have hA : ∀ q : Nat, s.heap.size ≤ q → A q := fun q h => by rw [← hAe]; exact Or.inr h
  have hS : va_S A s.heap s.heap [] := va_S.rf
  refine w_entry ha (Nat.le_of_ble_eq_true rfl) (fun ls hl => ?_)
  refine w_q (fun Q0 hQ => ?_)
  have lk60 := hts (.fieldLink RX8 60 "WhistleTunesModel" "many" "I") (by decide +kernel)
  have hinX8 : ∀ w ∈ wsX80, w ∈ wsX8_addNote := by decide +kernel
  have lk22 := hts (.fieldLink RX8 22 "WhistleTunesModel" "tune" "[I") (by decide +kernel)
  have hl : lv_has ls 2 [(0, .ref (q 0)), (1, .int x)] := hl
  have hP : va_P G vwCl [(q 0, .inr (8, [.int (Z 0 0), .ref (q 2), .ref (q 3), .int (Z 0 3), .ref (q 5), .int (Z 0 5), .ref (q 7), .int (Z 0 7), .int (Z 0 8), .int (Z 0 9), .int (Z 0 10), .int (Z 0 11), .ref (q 13), .int (Z 0 13), .ref (q 15), .long g])), (q 2, .inl (T 0, 267, .inl (Z 2))), (q 3, .inl (T 0, 1602, .inl (Z 3))), (q 5, .inl (T 0, 267, .inl (Z 5))), (q 7, .inl (T 0, 60, .inl (Z 7))), (q 13, .inl (T 0, 8, .inl (Z 13))), (q 15, .inl (T 0, 3, .inl (Z 15)))] s.heap := hP
  have hD : va_D A [(q 0, .inr (8, [.int (Z 0 0), .ref (q 2), .ref (q 3), .int (Z 0 3), .ref (q 5), .int (Z 0 5), .ref (q 7), .int (Z 0 7), .int (Z 0 8), .int (Z 0 9), .int (Z 0 10), .int (Z 0 11), .ref (q 13), .int (Z 0 13), .ref (q 15), .long g])), (q 2, .inl (T 0, 267, .inl (Z 2))), (q 3, .inl (T 0, 1602, .inl (Z 3))), (q 5, .inl (T 0, 267, .inl (Z 5))), (q 7, .inl (T 0, 60, .inl (Z 7))), (q 13, .inl (T 0, 8, .inl (Z 13))), (q 15, .inl (T 0, 3, .inl (Z 15)))] := hD
  skip
  refine w_h (fun H locs hHe hLe => ?_)
  have hP : va_P G vwCl [(q 0, .inr (8, [.int (Z 0 0), .ref (q 2), .ref (q 3), .int (Z 0 3), .ref (q 5), .int (Z 0 5), .ref (q 7), .int (Z 0 7), .int (Z 0 8), .int (Z 0 9), .int (Z 0 10), .int (Z 0 11), .ref (q 13), .int (Z 0 13), .ref (q 15), .long g])), (q 2, .inl (T 0, 267, .inl (Z 2))), (q 3, .inl (T 0, 1602, .inl (Z 3))), (q 5, .inl (T 0, 267, .inl (Z 5))), (q 7, .inl (T 0, 60, .inl (Z 7))), (q 13, .inl (T 0, 8, .inl (Z 13))), (q 15, .inl (T 0, 3, .inl (Z 15)))] H := by rw [hHe]; exact hP
  have hS : va_S A s.heap H locs := by rw [hHe, hLe]; exact hS
  refine lv_aload_n hx hb dX8_addNote_0 rfl (lv_at hl 0 rfl) ?_
  refine va_get (D := G) (ci := 8) (v := .int (Z 0 13)) (C := RX8) (T := TX8) (N := 16) hx hb hts hinX8 hown hK hP 0 rfl rfl 13 (by decide) lk60 (fun _ h9 => h9) rfl dX8_addNote_1 ?_
  refine n_top (y := nI n) hmany ?_
  refine lv_bipush (v := nI 8) hx hb dX8_addNote_4 (by decide) ?_
  refine n_icmp_ge (a := n) (b := 8) (tgt := 19) hx hb (by omega) (by decide) dX8_addNote_6 (by decide) (fun c_1 => ?_) (fun c_2 => ?_)
  · skip
    refine lv_aload_n hx hb dX8_addNote_19 rfl (lv_at hl 0 rfl) ?_
    refine lv_dup hx hb dX8_addNote_20 rfl ?_
    refine va_get (D := G) (ci := 8) (v := .int (Z 0 13)) (C := RX8) (T := TX8) (N := 16) hx hb hts hinX8 hown hK hP 0 rfl rfl 13 (by decide) lk60 (fun _ h9 => h9) rfl dX8_addNote_21 ?_
    refine n_top (y := nI n) hmany ?_
    refine lv_aload_n hx hb dX8_addNote_24 rfl (lv_at hl 0 rfl) ?_
    refine va_get (D := G) (ci := 8) (v := .int (Z 0 13)) (C := RX8) (T := TX8) (N := 16) hx hb hts hinX8 hown hK hP 0 rfl rfl 13 (by decide) lk60 (fun _ h9 => h9) rfl dX8_addNote_25 ?_
    refine n_top (y := nI n) hmany ?_
    refine lv_bipush (v := nI 8) hx hb dX8_addNote_28 (by decide) ?_
    have J_3 : ∀ y9 : Int32, y9 = (nI (if 8 < n then 0 else 1)) → W p l e (headSpec wsX8_addNote (rmD 0 0 0)).room s m args below meth c H locs 0 0 Q0 (F0 m 38 ls (.int y9 :: .int (nI n) :: .ref (q 0) :: [])) := by
      intro y9 hy9
      subst hy9
      refine n_iadd (a := n) (b := (if 8 < n then 0 else 1)) hx hb dX8_addNote_38 ?_
      refine va_put (D := G) (ci := 8) (v := .int (nI (n + ((if 8 < n then 0 else 1))))) (ty := .int) (C := RX8) (T := TX8) (N := 16) hx hb hts hinX8 tyX8 tyX8_ok nmX8 hown hK hP hD hS 0 rfl rfl 13 (by decide) lk60 (fun _ h9 => h9) rfl (by decide +kernel) rfl rfl (Nat.le_of_ble_eq_true rfl) dX8_addNote_39 (fun H locs hP hD hS => ?_)
      have hP : va_P G vwCl [(q 0, .inr (8, [.int (Z 0 0), .ref (q 2), .ref (q 3), .int (Z 0 3), .ref (q 5), .int (Z 0 5), .ref (q 7), .int (Z 0 7), .int (Z 0 8), .int (Z 0 9), .int (Z 0 10), .int (Z 0 11), .ref (q 13), .int (nI (n + ((if 8 < n then 0 else 1)))), .ref (q 15), .long g])), (q 2, .inl (T 0, 267, .inl (Z 2))), (q 3, .inl (T 0, 1602, .inl (Z 3))), (q 5, .inl (T 0, 267, .inl (Z 5))), (q 7, .inl (T 0, 60, .inl (Z 7))), (q 13, .inl (T 0, 8, .inl (Z 13))), (q 15, .inl (T 0, 3, .inl (Z 15)))] H := hP
      have hD : va_D A [(q 0, .inr (8, [.int (Z 0 0), .ref (q 2), .ref (q 3), .int (Z 0 3), .ref (q 5), .int (Z 0 5), .ref (q 7), .int (Z 0 7), .int (Z 0 8), .int (Z 0 9), .int (Z 0 10), .int (Z 0 11), .ref (q 13), .int (nI (n + ((if 8 < n then 0 else 1)))), .ref (q 15), .long g])), (q 2, .inl (T 0, 267, .inl (Z 2))), (q 3, .inl (T 0, 1602, .inl (Z 3))), (q 5, .inl (T 0, 267, .inl (Z 5))), (q 7, .inl (T 0, 60, .inl (Z 7))), (q 13, .inl (T 0, 8, .inl (Z 13))), (q 15, .inl (T 0, 3, .inl (Z 15)))] := hD
      subst hQ
      have e_4 : (Z 13) = mAdT (Z 13) n x := (by unfold mAdT; first | rw [if_pos (by omega)] | rw [if_neg (by omega)])
      have e_5 : nI (n + ((if 8 < n then 0 else 1))) = nI (mAdN n) := (by unfold mAdN; split <;> rfl)
      rw [e_5, e_4] at hP hD
      have hP9 : va_P G vwCl (oX8 T q (sa (sc Z 13 (nI (mAdN n))) 13 (mAdT (Z 13) n x)) g) H := hP
      have hD9 : va_D A (oX8 T q (sa (sc Z 13 (nI (mAdN n))) 13 (mAdT (Z 13) n x)) g) := hD
      exact e_rwv hx hb hr hlocks hS hP9 hD9 dX8_addNote_42
    refine n_icmp_le (a := n) (b := 8) (tgt := 37) hx hb (by omega) (by decide) dX8_addNote_30 (by decide) (fun c_6 => ?_) (fun c_7 => ?_)
    · skip
      refine n_iconst hx hb 1 dX8_addNote_37 (by decide) ?_
      exact J_3 _ (by first | rw [if_pos c_6] | rw [if_neg (Nat.not_lt.mpr c_6)])
    · skip
      refine n_iconst hx hb 0 dX8_addNote_33 (by decide) ?_
      refine lv_goto (tgt := 38) hx hb dX8_addNote_34 (by decide) ?_
      exact J_3 _ (by first | rw [if_pos c_7] | rw [if_neg (Nat.not_lt.mpr c_7)])
  · skip
    refine lv_aload_n hx hb dX8_addNote_9 rfl (lv_at hl 0 rfl) ?_
    refine va_get (D := G) (ci := 8) (v := .ref (q 13)) (C := RX8) (T := TX8) (N := 16) hx hb hts hinX8 hown hK hP 0 rfl rfl 12 (by decide) lk22 (fun _ h9 => h9) rfl dX8_addNote_10 ?_
    refine lv_aload_n hx hb dX8_addNote_13 rfl (lv_at hl 0 rfl) ?_
    refine va_get (D := G) (ci := 8) (v := .int (Z 0 13)) (C := RX8) (T := TX8) (N := 16) hx hb hts hinX8 hown hK hP 0 rfl rfl 13 (by decide) lk60 (fun _ h9 => h9) rfl dX8_addNote_14 ?_
    refine n_top (y := nI n) hmany ?_
    refine lv_iload_n hx hb dX8_addNote_17 rfl (lv_at hl 1 rfl) ?_
    refine n_iast hx hb hK hP hD hS 5 0 rfl rfl n (by omega) (by decide) dX8_addNote_18 (fun H locs hP hD hS => ?_)
    have hP : va_P G vwCl [(q 0, .inr (8, [.int (Z 0 0), .ref (q 2), .ref (q 3), .int (Z 0 3), .ref (q 5), .int (Z 0 5), .ref (q 7), .int (Z 0 7), .int (Z 0 8), .int (Z 0 9), .int (Z 0 10), .int (Z 0 11), .ref (q 13), .int (Z 0 13), .ref (q 15), .long g])), (q 2, .inl (T 0, 267, .inl (Z 2))), (q 3, .inl (T 0, 1602, .inl (Z 3))), (q 5, .inl (T 0, 267, .inl (Z 5))), (q 7, .inl (T 0, 60, .inl (Z 7))), (q 13, .inl (T 0, 8, .inl (upd (Z 13) n x))), (q 15, .inl (T 0, 3, .inl (Z 15)))] H := hP
    have hD : va_D A [(q 0, .inr (8, [.int (Z 0 0), .ref (q 2), .ref (q 3), .int (Z 0 3), .ref (q 5), .int (Z 0 5), .ref (q 7), .int (Z 0 7), .int (Z 0 8), .int (Z 0 9), .int (Z 0 10), .int (Z 0 11), .ref (q 13), .int (Z 0 13), .ref (q 15), .long g])), (q 2, .inl (T 0, 267, .inl (Z 2))), (q 3, .inl (T 0, 1602, .inl (Z 3))), (q 5, .inl (T 0, 267, .inl (Z 5))), (q 7, .inl (T 0, 60, .inl (Z 7))), (q 13, .inl (T 0, 8, .inl (upd (Z 13) n x))), (q 15, .inl (T 0, 3, .inl (Z 15)))] := hD
    refine lv_aload_n hx hb dX8_addNote_19 rfl (lv_at hl 0 rfl) ?_
    refine lv_dup hx hb dX8_addNote_20 rfl ?_
    refine va_get (D := G) (ci := 8) (v := .int (Z 0 13)) (C := RX8) (T := TX8) (N := 16) hx hb hts hinX8 hown hK hP 0 rfl rfl 13 (by decide) lk60 (fun _ h9 => h9) rfl dX8_addNote_21 ?_
    refine n_top (y := nI n) hmany ?_
    refine lv_aload_n hx hb dX8_addNote_24 rfl (lv_at hl 0 rfl) ?_
    refine va_get (D := G) (ci := 8) (v := .int (Z 0 13)) (C := RX8) (T := TX8) (N := 16) hx hb hts hinX8 hown hK hP 0 rfl rfl 13 (by decide) lk60 (fun _ h9 => h9) rfl dX8_addNote_25 ?_
    refine n_top (y := nI n) hmany ?_
    refine lv_bipush (v := nI 8) hx hb dX8_addNote_28 (by decide) ?_
    have J_8 : ∀ y9 : Int32, y9 = (nI (if 8 < n then 0 else 1)) → W p l e (headSpec wsX8_addNote (rmD 0 0 0)).room s m args below meth c H locs 0 0 Q0 (F0 m 38 ls (.int y9 :: .int (nI n) :: .ref (q 0) :: [])) := by
      intro y9 hy9
      subst hy9
      refine n_iadd (a := n) (b := (if 8 < n then 0 else 1)) hx hb dX8_addNote_38 ?_
      refine va_put (D := G) (ci := 8) (v := .int (nI (n + ((if 8 < n then 0 else 1))))) (ty := .int) (C := RX8) (T := TX8) (N := 16) hx hb hts hinX8 tyX8 tyX8_ok nmX8 hown hK hP hD hS 0 rfl rfl 13 (by decide) lk60 (fun _ h9 => h9) rfl (by decide +kernel) rfl rfl (Nat.le_of_ble_eq_true rfl) dX8_addNote_39 (fun H locs hP hD hS => ?_)
      have hP : va_P G vwCl [(q 0, .inr (8, [.int (Z 0 0), .ref (q 2), .ref (q 3), .int (Z 0 3), .ref (q 5), .int (Z 0 5), .ref (q 7), .int (Z 0 7), .int (Z 0 8), .int (Z 0 9), .int (Z 0 10), .int (Z 0 11), .ref (q 13), .int (nI (n + ((if 8 < n then 0 else 1)))), .ref (q 15), .long g])), (q 2, .inl (T 0, 267, .inl (Z 2))), (q 3, .inl (T 0, 1602, .inl (Z 3))), (q 5, .inl (T 0, 267, .inl (Z 5))), (q 7, .inl (T 0, 60, .inl (Z 7))), (q 13, .inl (T 0, 8, .inl (upd (Z 13) n x))), (q 15, .inl (T 0, 3, .inl (Z 15)))] H := hP
      have hD : va_D A [(q 0, .inr (8, [.int (Z 0 0), .ref (q 2), .ref (q 3), .int (Z 0 3), .ref (q 5), .int (Z 0 5), .ref (q 7), .int (Z 0 7), .int (Z 0 8), .int (Z 0 9), .int (Z 0 10), .int (Z 0 11), .ref (q 13), .int (nI (n + ((if 8 < n then 0 else 1)))), .ref (q 15), .long g])), (q 2, .inl (T 0, 267, .inl (Z 2))), (q 3, .inl (T 0, 1602, .inl (Z 3))), (q 5, .inl (T 0, 267, .inl (Z 5))), (q 7, .inl (T 0, 60, .inl (Z 7))), (q 13, .inl (T 0, 8, .inl (upd (Z 13) n x))), (q 15, .inl (T 0, 3, .inl (Z 15)))] := hD
      subst hQ
      have e_9 : (upd (Z 13) n x) = mAdT (Z 13) n x := (by unfold mAdT; first | rw [if_pos (by omega)] | rw [if_neg (by omega)])
      have e_10 : nI (n + ((if 8 < n then 0 else 1))) = nI (mAdN n) := (by unfold mAdN; split <;> rfl)
      rw [e_10, e_9] at hP hD
      have hP9 : va_P G vwCl (oX8 T q (sa (sc Z 13 (nI (mAdN n))) 13 (mAdT (Z 13) n x)) g) H := hP
      have hD9 : va_D A (oX8 T q (sa (sc Z 13 (nI (mAdN n))) 13 (mAdT (Z 13) n x)) g) := hD
      exact e_rwv hx hb hr hlocks hS hP9 hD9 dX8_addNote_42
    refine n_icmp_le (a := n) (b := 8) (tgt := 37) hx hb (by omega) (by decide) dX8_addNote_30 (by decide) (fun c_11 => ?_) (fun c_12 => ?_)
    · skip
      refine n_iconst hx hb 1 dX8_addNote_37 (by decide) ?_
      exact J_8 _ (by first | rw [if_pos c_11] | rw [if_neg (Nat.not_lt.mpr c_11)])
    · skip
      refine n_iconst hx hb 0 dX8_addNote_33 (by decide) ?_
      refine lv_goto (tgt := 38) hx hb dX8_addNote_34 (by decide) ?_
      exact J_8 _ (by first | rw [if_pos c_12] | rw [if_neg (Nat.not_lt.mpr c_12)])
set_option maxHeartbeats 4000000 in
set_option maxRecDepth 100000 in
theorem c_X8_teaches (l : Launch) (G : va_G) (T : Nat → ClassId) (sz : Nat) (q : Nat → Nat) (Z : Nat → Nat → Int32) (g : Int64) (mm : Nat) (n : Nat) (hm20 : mm < 20) (hmany : Z 0 13 = nI n) (hn9 : n ≤ 9) : RWi l yX8_teaches wsX8_teaches 1 0 0 G T sz (oX8 T q Z g) [.ref (q 0), .int (nI mm)] (nI n) (oX8 T q (sa Z 2 (mTcF (Z 2) (Z 13) mm n 8)) g) := by
  refine Met.ofW (cc := cX8_teaches) (maxL := 3) (ret := (some .int)) (by decide) rfl ?_
  intro p e s m args below meth c s₁ B hml hv
  obtain ⟨ha, hsz, hP, hK, hD0, hE0⟩ := hv
  have hx := B.exec
  have hb := B.bytes
  have hr := B.returns
  have hlocks := B.notSynchronized
  have hts := atoms_spec (ws := wsX8_teaches) B.pre
  have hown : s.vm.findClass RX8 = some m.cls := findClass_of_methodNamed B.named
  have cx : CallFix p m c cX8_teaches 3 s args wsX8_teaches RX8 := ⟨hx, hb, hml, hown, hts⟩
  subst hsz
  have hD := hD0.self (sz := s.heap.size)
  generalize hAe : va_A (oX8 T q Z g) s.heap.size = A at hD hE0 ⊢
  have hE : gE A s s.heap := hE0
  have hA : ∀ q : Nat, s.heap.size ≤ q → A q := fun q h => by rw [← hAe]; exact Or.inr h
  have hS : va_S A s.heap s.heap [] := va_S.rf
  refine w_entry ha (Nat.le_of_ble_eq_true rfl) (fun ls hl => ?_)
  refine w_q (fun Q0 hQ => ?_)
  have lk60 := hts (.fieldLink RX8 60 "WhistleTunesModel" "many" "I") (by decide +kernel)
  have hinX8 : ∀ w ∈ wsX80, w ∈ wsX8_teaches := by decide +kernel
  have lk22 := hts (.fieldLink RX8 22 "WhistleTunesModel" "tune" "[I") (by decide +kernel)
  have hl : lv_has ls 3 [(0, .ref (q 0)), (1, .int (nI mm))] := hl
  have hP : va_P G vwCl [(q 0, .inr (8, [.int (Z 0 0), .ref (q 2), .ref (q 3), .int (Z 0 3), .ref (q 5), .int (Z 0 5), .ref (q 7), .int (Z 0 7), .int (Z 0 8), .int (Z 0 9), .int (Z 0 10), .int (Z 0 11), .ref (q 13), .int (Z 0 13), .ref (q 15), .long g])), (q 2, .inl (T 0, 267, .inl (Z 2))), (q 3, .inl (T 0, 1602, .inl (Z 3))), (q 5, .inl (T 0, 267, .inl (Z 5))), (q 7, .inl (T 0, 60, .inl (Z 7))), (q 13, .inl (T 0, 8, .inl (Z 13))), (q 15, .inl (T 0, 3, .inl (Z 15)))] s.heap := hP
  have hD : va_D A [(q 0, .inr (8, [.int (Z 0 0), .ref (q 2), .ref (q 3), .int (Z 0 3), .ref (q 5), .int (Z 0 5), .ref (q 7), .int (Z 0 7), .int (Z 0 8), .int (Z 0 9), .int (Z 0 10), .int (Z 0 11), .ref (q 13), .int (Z 0 13), .ref (q 15), .long g])), (q 2, .inl (T 0, 267, .inl (Z 2))), (q 3, .inl (T 0, 1602, .inl (Z 3))), (q 5, .inl (T 0, 267, .inl (Z 5))), (q 7, .inl (T 0, 60, .inl (Z 7))), (q 13, .inl (T 0, 8, .inl (Z 13))), (q 15, .inl (T 0, 3, .inl (Z 15)))] := hD
  skip
  refine w_h (fun H locs hHe hLe => ?_)
  have hP : va_P G vwCl [(q 0, .inr (8, [.int (Z 0 0), .ref (q 2), .ref (q 3), .int (Z 0 3), .ref (q 5), .int (Z 0 5), .ref (q 7), .int (Z 0 7), .int (Z 0 8), .int (Z 0 9), .int (Z 0 10), .int (Z 0 11), .ref (q 13), .int (Z 0 13), .ref (q 15), .long g])), (q 2, .inl (T 0, 267, .inl (Z 2))), (q 3, .inl (T 0, 1602, .inl (Z 3))), (q 5, .inl (T 0, 267, .inl (Z 5))), (q 7, .inl (T 0, 60, .inl (Z 7))), (q 13, .inl (T 0, 8, .inl (Z 13))), (q 15, .inl (T 0, 3, .inl (Z 15)))] H := by rw [hHe]; exact hP
  have hS : va_S A s.heap H locs := by rw [hHe, hLe]; exact hS
  refine lv_aload_n hx hb dX8_teaches_0 rfl (lv_at hl 0 rfl) ?_
  refine lv_iload_n hx hb dX8_teaches_1 rfl (lv_at hl 1 rfl) ?_
  refine n_iconst hx hb 0 dX8_teaches_2 (by decide) ?_
  refine lv_aload_n hx hb dX8_teaches_3 rfl (lv_at hl 0 rfl) ?_
  refine va_get (D := G) (ci := 8) (v := .int (Z 0 13)) (C := RX8) (T := TX8) (N := 16) hx hb hts hinX8 hown hK hP 0 rfl rfl 13 (by decide) lk60 (fun _ h9 => h9) rfl dX8_teaches_4 ?_
  refine n_top (y := nI n) hmany ?_
  refine k_rvV (As := [.int (nI mm), .int (nI 0), .int (nI n)]) (rest := []) (wc := oX8 T q Z g) (wr := []) (w1 := oX8 T q (sa Z 2 (upd (Z 2) (47 + 11 * mm + 0) (nI n))) g) (d := 0) (mc := 0) (ms := 0) (isC := [0, 1, 2, 3, 4, 5, 6]) (isR := []) cx (c_X8_setMessage l G T H.size q Z g mm 0 (nI n) (by omega) (by omega)) (cwV 3 hts gX8_teaches_X8_setMessage rfl rfl rfl (by decide +kernel) ⟨Nat.le_of_ble_eq_true rfl, Nat.le_of_ble_eq_true rfl⟩) ⟨hP, hD, hS, hA, hE, hK, rfl, rfl, rfl, rfl, by decide⟩ (va_recv hK hP (ci := 8) (q0 := 0) rfl rfl) rfl hl.1 rfl (Nat.le_of_ble_eq_true rfl) dX8_teaches_7 ⟨Nat.le_of_ble_eq_true rfl, Nat.le_of_ble_eq_true rfl⟩ (fun H locs hP hD hS hz => ?_)
  have hP : va_P G vwCl [(q 0, .inr (8, [.int (Z 0 0), .ref (q 2), .ref (q 3), .int (Z 0 3), .ref (q 5), .int (Z 0 5), .ref (q 7), .int (Z 0 7), .int (Z 0 8), .int (Z 0 9), .int (Z 0 10), .int (Z 0 11), .ref (q 13), .int (Z 0 13), .ref (q 15), .long g])), (q 2, .inl (T 0, 267, .inl (upd ((Z 2)) (47 + 11 * mm) (nI n)))), (q 3, .inl (T 0, 1602, .inl (Z 3))), (q 5, .inl (T 0, 267, .inl (Z 5))), (q 7, .inl (T 0, 60, .inl (Z 7))), (q 13, .inl (T 0, 8, .inl (Z 13))), (q 15, .inl (T 0, 3, .inl (Z 15)))] H := hP
  have hD : va_D A [(q 0, .inr (8, [.int (Z 0 0), .ref (q 2), .ref (q 3), .int (Z 0 3), .ref (q 5), .int (Z 0 5), .ref (q 7), .int (Z 0 7), .int (Z 0 8), .int (Z 0 9), .int (Z 0 10), .int (Z 0 11), .ref (q 13), .int (Z 0 13), .ref (q 15), .long g])), (q 2, .inl (T 0, 267, .inl (upd ((Z 2)) (47 + 11 * mm) (nI n)))), (q 3, .inl (T 0, 1602, .inl (Z 3))), (q 5, .inl (T 0, 267, .inl (Z 5))), (q 7, .inl (T 0, 60, .inl (Z 7))), (q 13, .inl (T 0, 8, .inl (Z 13))), (q 15, .inl (T 0, 3, .inl (Z 15)))] := hD
  refine n_iconst hx hb 0 dX8_teaches_10 (by decide) ?_
  refine lv_istore_n (lv' := [(2, .int (nI 0)), (0, .ref (q 0)), (1, .int (nI mm))]) hx hb dX8_teaches_11 rfl hl (by decide) rfl (fun ls hl => ?_)
  have L12 : ∀ (n9 k : Nat) (hk1 : k ≤ 8) (hk2 : 8 - k < n9) (x2 : Int32) (F_1 : Nat → Int32) (hx2 : x2 = nI k) (hF_1 : F_1 = mTcF (Z 2) (Z 13) mm n k) (H : Heap) (locs : List Loc) (hP : va_P G vwCl [(q 0, .inr (8, [.int (Z 0 0), .ref (q 2), .ref (q 3), .int (Z 0 3), .ref (q 5), .int (Z 0 5), .ref (q 7), .int (Z 0 7), .int (Z 0 8), .int (Z 0 9), .int (Z 0 10), .int (Z 0 11), .ref (q 13), .int (Z 0 13), .ref (q 15), .long g])), (q 2, .inl (T 0, 267, .inl F_1)), (q 3, .inl (T 0, 1602, .inl (Z 3))), (q 5, .inl (T 0, 267, .inl (Z 5))), (q 7, .inl (T 0, 60, .inl (Z 7))), (q 13, .inl (T 0, 8, .inl (Z 13))), (q 15, .inl (T 0, 3, .inl (Z 15)))] H) (hD : va_D A [(q 0, .inr (8, [.int (Z 0 0), .ref (q 2), .ref (q 3), .int (Z 0 3), .ref (q 5), .int (Z 0 5), .ref (q 7), .int (Z 0 7), .int (Z 0 8), .int (Z 0 9), .int (Z 0 10), .int (Z 0 11), .ref (q 13), .int (Z 0 13), .ref (q 15), .long g])), (q 2, .inl (T 0, 267, .inl F_1)), (q 3, .inl (T 0, 1602, .inl (Z 3))), (q 5, .inl (T 0, 267, .inl (Z 5))), (q 7, .inl (T 0, 60, .inl (Z 7))), (q 13, .inl (T 0, 8, .inl (Z 13))), (q 15, .inl (T 0, 3, .inl (Z 15)))]) (hS : va_S A s.heap H locs) (ls : Array Slot) (hl : lv_has ls 3 [(2, .int x2), (0, .ref (q 0)), (1, .int (nI mm))]), W p l e (headSpec wsX8_teaches (rmD 1 0 0)).room s m args below meth c H locs 0 0 Q0 (F0 m 12 ls []) := by
    intro n9
    induction n9 with
    | zero => intros; omega
    | succ n9 ih12 =>
      intro k hk1 hk2 x2 F_1 hx2 hF_1 H locs hP hD hS ls hl
      subst hx2 hF_1
      refine lv_iload_n hx hb dX8_teaches_12 rfl (lv_at hl 0 rfl) ?_
      refine lv_bipush (v := nI 8) hx hb dX8_teaches_13 (by decide) ?_
      refine n_icmp_ge (a := k) (b := 8) (tgt := 50) hx hb (by omega) (by decide) dX8_teaches_15 (by decide) (fun c_2 => ?_) (fun c_3 => ?_)
      · skip
        obtain rfl : k = 8 := (by omega)
        refine lv_aload_n hx hb dX8_teaches_50 rfl (lv_at hl 1 rfl) ?_
        refine va_get (D := G) (ci := 8) (v := .int (Z 0 13)) (C := RX8) (T := TX8) (N := 16) hx hb hts hinX8 hown hK hP 0 rfl rfl 13 (by decide) lk60 (fun _ h9 => h9) rfl dX8_teaches_51 ?_
        refine n_top (y := nI n) hmany ?_
        subst hQ
        have hP9 : va_P G vwCl (oX8 T q (sa Z 2 (mTcF (Z 2) (Z 13) mm n 8)) g) H := hP
        have hD9 : va_D A (oX8 T q (sa Z 2 (mTcF (Z 2) (Z 13) mm n 8)) g) := hD
        exact e_rwi hx hb hr hlocks hS (by first | rfl | simp [bI, c_2]) hP9 hD9 dX8_teaches_54
      · skip
        refine lv_aload_n hx hb dX8_teaches_18 rfl (lv_at hl 1 rfl) ?_
        refine lv_iload_n hx hb dX8_teaches_19 rfl (lv_at hl 2 rfl) ?_
        refine n_iconst hx hb 3 dX8_teaches_20 (by decide) ?_
        refine lv_iload_n hx hb dX8_teaches_21 rfl (lv_at hl 0 rfl) ?_
        refine n_iadd (a := 3) (b := k) hx hb dX8_teaches_22 ?_
        refine lv_iload_n hx hb dX8_teaches_23 rfl (lv_at hl 0 rfl) ?_
        refine lv_aload_n hx hb dX8_teaches_24 rfl (lv_at hl 1 rfl) ?_
        refine va_get (D := G) (ci := 8) (v := .int (Z 0 13)) (C := RX8) (T := TX8) (N := 16) hx hb hts hinX8 hown hK hP 0 rfl rfl 13 (by decide) lk60 (fun _ h9 => h9) rfl dX8_teaches_25 ?_
        refine n_top (y := nI n) hmany ?_
        have J_4 : ∀ y9 : Int32, y9 = (if k < n then (Z 13) k else nI 0) → W p l e (headSpec wsX8_teaches (rmD 1 0 0)).room s m args below meth c H locs 0 0 Q0 (F0 m 41 ls (.int y9 :: .int (nI (3 + k)) :: .int (nI mm) :: .ref (q 0) :: [])) := by
          intro y9 hy9
          subst hy9
          refine k_rvV (As := [.int (nI mm), .int (nI (3 + k)), .int (if k < n then (Z 13) k else nI 0)]) (rest := []) (wc := oX8 T q (sa Z 2 (mTcF (Z 2) (Z 13) mm n k)) g) (wr := []) (w1 := oX8 T q (sa (sa Z 2 (mTcF (Z 2) (Z 13) mm n k)) 2 (upd ((sa Z 2 (mTcF (Z 2) (Z 13) mm n k)) 2) (47 + 11 * mm + (3 + k)) (if k < n then (Z 13) k else nI 0))) g) (d := 0) (mc := 0) (ms := 0) (isC := [0, 1, 2, 3, 4, 5, 6]) (isR := []) cx (c_X8_setMessage l G T H.size q (sa Z 2 (mTcF (Z 2) (Z 13) mm n k)) g mm (3 + k) (if k < n then (Z 13) k else nI 0) (by omega) (by omega)) (cwV 3 hts gX8_teaches_X8_setMessage rfl rfl rfl (by decide +kernel) ⟨Nat.le_of_ble_eq_true rfl, Nat.le_of_ble_eq_true rfl⟩) ⟨hP, hD, hS, hA, hE, hK, rfl, rfl, rfl, rfl, by decide⟩ (va_recv hK hP (ci := 8) (q0 := 0) rfl rfl) rfl hl.1 rfl (Nat.le_of_ble_eq_true rfl) dX8_teaches_41 ⟨Nat.le_of_ble_eq_true rfl, Nat.le_of_ble_eq_true rfl⟩ (fun H locs hP hD hS hz => ?_)
          have hP : va_P G vwCl [(q 0, .inr (8, [.int (Z 0 0), .ref (q 2), .ref (q 3), .int (Z 0 3), .ref (q 5), .int (Z 0 5), .ref (q 7), .int (Z 0 7), .int (Z 0 8), .int (Z 0 9), .int (Z 0 10), .int (Z 0 11), .ref (q 13), .int (Z 0 13), .ref (q 15), .long g])), (q 2, .inl (T 0, 267, .inl (upd ((mTcF (Z 2) (Z 13) mm n k)) (47 + 11 * mm + (3 + k)) (if k < n then (Z 13) k else nI 0)))), (q 3, .inl (T 0, 1602, .inl (Z 3))), (q 5, .inl (T 0, 267, .inl (Z 5))), (q 7, .inl (T 0, 60, .inl (Z 7))), (q 13, .inl (T 0, 8, .inl (Z 13))), (q 15, .inl (T 0, 3, .inl (Z 15)))] H := hP
          have hD : va_D A [(q 0, .inr (8, [.int (Z 0 0), .ref (q 2), .ref (q 3), .int (Z 0 3), .ref (q 5), .int (Z 0 5), .ref (q 7), .int (Z 0 7), .int (Z 0 8), .int (Z 0 9), .int (Z 0 10), .int (Z 0 11), .ref (q 13), .int (Z 0 13), .ref (q 15), .long g])), (q 2, .inl (T 0, 267, .inl (upd ((mTcF (Z 2) (Z 13) mm n k)) (47 + 11 * mm + (3 + k)) (if k < n then (Z 13) k else nI 0)))), (q 3, .inl (T 0, 1602, .inl (Z 3))), (q 5, .inl (T 0, 267, .inl (Z 5))), (q 7, .inl (T 0, 60, .inl (Z 7))), (q 13, .inl (T 0, 8, .inl (Z 13))), (q 15, .inl (T 0, 3, .inl (Z 15)))] := hD
          refine lv_iinc (v := nI (k + 1)) (lv' := [(2, .int (nI (k + 1))), (0, .ref (q 0)), (1, .int (nI mm))]) hx hb dX8_teaches_44 hl (k := 0) rfl (n_inc k 1 rfl) (by decide) rfl (fun ls hl => ?_)
          refine lv_goto (tgt := 12) hx hb dX8_teaches_47 (by decide) ?_
          have e_5 : (upd ((mTcF (Z 2) (Z 13) mm n k)) (47 + 11 * mm + (3 + k)) (if k < n then (Z 13) k else nI 0)) = mTcF (Z 2) (Z 13) mm n (k + 1) := rfl
          exact ih12 (k + 1) (by omega) (by omega) _ _ rfl e_5 _ _ hP hD hS _ (lv_sub hl [0, 1, 2] rfl)
        refine n_icmp_ge (a := k) (b := n) (tgt := 40) hx hb (by omega) (by omega) dX8_teaches_28 (by decide) (fun c_6 => ?_) (fun c_7 => ?_)
        · skip
          refine n_iconst hx hb 0 dX8_teaches_40 (by decide) ?_
          exact J_4 _ (by first | rw [if_pos c_6] | rw [if_neg (Nat.not_lt.mpr c_6)])
        · skip
          refine lv_aload_n hx hb dX8_teaches_31 rfl (lv_at hl 1 rfl) ?_
          refine va_get (D := G) (ci := 8) (v := .ref (q 13)) (C := RX8) (T := TX8) (N := 16) hx hb hts hinX8 hown hK hP 0 rfl rfl 12 (by decide) lk22 (fun _ h9 => h9) rfl dX8_teaches_32 ?_
          refine lv_iload_n hx hb dX8_teaches_35 rfl (lv_at hl 0 rfl) ?_
          refine n_iald hx hb hK hP 5 0 rfl rfl k (by omega) (by decide) dX8_teaches_36 ?_
          refine lv_goto (tgt := 41) hx hb dX8_teaches_37 (by decide) ?_
          exact J_4 _ (by first | rw [if_pos c_7] | rw [if_neg (Nat.not_lt.mpr c_7)])
  exact L12 (8 + 1) 0 (by omega) (by omega) _ _ rfl rfl _ _ hP hD hS _ (lv_sub hl [0, 1, 2] rfl)
set_option maxHeartbeats 4000000 in
set_option maxRecDepth 100000 in
theorem c_X8_rings (l : Launch) (G : va_G) (T : Nat → ClassId) (sz : Nat) (q : Nat → Nat) (Z : Nat → Nat → Int32) (g : Int64) : RWi l yX8_rings wsX8_rings 0 0 0 G T sz (oX8 T q Z g) [.ref (q 0)] (mRiF (Z 2) 6 0) (oX8 T q (sa Z 2 (mRiF (Z 2) 6)) g) := by
  refine Met.ofW (cc := cX8_rings) (maxL := 2) (ret := (some .int)) (by decide) rfl ?_
  intro p e s m args below meth c s₁ B hml hv
  obtain ⟨ha, hsz, hP, hK, hD0, hE0⟩ := hv
  have hx := B.exec
  have hb := B.bytes
  have hr := B.returns
  have hlocks := B.notSynchronized
  have hts := atoms_spec (ws := wsX8_rings) B.pre
  have hown : s.vm.findClass RX8 = some m.cls := findClass_of_methodNamed B.named
  have cx : CallFix p m c cX8_rings 2 s args wsX8_rings RX8 := ⟨hx, hb, hml, hown, hts⟩
  subst hsz
  have hD := hD0.self (sz := s.heap.size)
  generalize hAe : va_A (oX8 T q Z g) s.heap.size = A at hD hE0 ⊢
  have hE : gE A s s.heap := hE0
  have hA : ∀ q : Nat, s.heap.size ≤ q → A q := fun q h => by rw [← hAe]; exact Or.inr h
  have hS : va_S A s.heap s.heap [] := va_S.rf
  refine w_entry ha (Nat.le_of_ble_eq_true rfl) (fun ls hl => ?_)
  refine w_q (fun Q0 hQ => ?_)
  have lk7 := hts (.fieldLink RX8 7 "WhistleTunesModel" "state" "[I") (by decide +kernel)
  have hinX8 : ∀ w ∈ wsX80, w ∈ wsX8_rings := by decide +kernel
  have hl : lv_has ls 2 [(0, .ref (q 0))] := hl
  have hP : va_P G vwCl [(q 0, .inr (8, [.int (Z 0 0), .ref (q 2), .ref (q 3), .int (Z 0 3), .ref (q 5), .int (Z 0 5), .ref (q 7), .int (Z 0 7), .int (Z 0 8), .int (Z 0 9), .int (Z 0 10), .int (Z 0 11), .ref (q 13), .int (Z 0 13), .ref (q 15), .long g])), (q 2, .inl (T 0, 267, .inl (Z 2))), (q 3, .inl (T 0, 1602, .inl (Z 3))), (q 5, .inl (T 0, 267, .inl (Z 5))), (q 7, .inl (T 0, 60, .inl (Z 7))), (q 13, .inl (T 0, 8, .inl (Z 13))), (q 15, .inl (T 0, 3, .inl (Z 15)))] s.heap := hP
  have hD : va_D A [(q 0, .inr (8, [.int (Z 0 0), .ref (q 2), .ref (q 3), .int (Z 0 3), .ref (q 5), .int (Z 0 5), .ref (q 7), .int (Z 0 7), .int (Z 0 8), .int (Z 0 9), .int (Z 0 10), .int (Z 0 11), .ref (q 13), .int (Z 0 13), .ref (q 15), .long g])), (q 2, .inl (T 0, 267, .inl (Z 2))), (q 3, .inl (T 0, 1602, .inl (Z 3))), (q 5, .inl (T 0, 267, .inl (Z 5))), (q 7, .inl (T 0, 60, .inl (Z 7))), (q 13, .inl (T 0, 8, .inl (Z 13))), (q 15, .inl (T 0, 3, .inl (Z 15)))] := hD
  skip
  refine w_h (fun H locs hHe hLe => ?_)
  have hP : va_P G vwCl [(q 0, .inr (8, [.int (Z 0 0), .ref (q 2), .ref (q 3), .int (Z 0 3), .ref (q 5), .int (Z 0 5), .ref (q 7), .int (Z 0 7), .int (Z 0 8), .int (Z 0 9), .int (Z 0 10), .int (Z 0 11), .ref (q 13), .int (Z 0 13), .ref (q 15), .long g])), (q 2, .inl (T 0, 267, .inl (Z 2))), (q 3, .inl (T 0, 1602, .inl (Z 3))), (q 5, .inl (T 0, 267, .inl (Z 5))), (q 7, .inl (T 0, 60, .inl (Z 7))), (q 13, .inl (T 0, 8, .inl (Z 13))), (q 15, .inl (T 0, 3, .inl (Z 15)))] H := by rw [hHe]; exact hP
  have hS : va_S A s.heap H locs := by rw [hHe, hLe]; exact hS
  refine lv_aload_n hx hb dX8_rings_0 rfl (lv_at hl 0 rfl) ?_
  refine va_get (D := G) (ci := 8) (v := .ref (q 2)) (C := RX8) (T := TX8) (N := 16) hx hb hts hinX8 hown hK hP 0 rfl rfl 1 (by decide) lk7 (fun _ h9 => h9) rfl dX8_rings_1 ?_
  refine n_iconst hx hb 0 dX8_rings_4 (by decide) ?_
  refine lv_dup2_11 hx hb dX8_rings_5 rfl rfl ?_
  refine n_iald hx hb hK hP 1 0 rfl rfl 0 (by decide) (by decide) dX8_rings_6 ?_
  refine n_iconst hx hb 1 dX8_rings_7 (by decide) ?_
  refine lv_iadd hx hb dX8_rings_8 ?_
  refine n_iast hx hb hK hP hD hS 1 0 rfl rfl 0 (by decide) (by decide) dX8_rings_9 (fun H locs hP hD hS => ?_)
  have hP : va_P G vwCl [(q 0, .inr (8, [.int (Z 0 0), .ref (q 2), .ref (q 3), .int (Z 0 3), .ref (q 5), .int (Z 0 5), .ref (q 7), .int (Z 0 7), .int (Z 0 8), .int (Z 0 9), .int (Z 0 10), .int (Z 0 11), .ref (q 13), .int (Z 0 13), .ref (q 15), .long g])), (q 2, .inl (T 0, 267, .inl (upd (Z 2) 0 (((Z 2) 0) + (nI 1))))), (q 3, .inl (T 0, 1602, .inl (Z 3))), (q 5, .inl (T 0, 267, .inl (Z 5))), (q 7, .inl (T 0, 60, .inl (Z 7))), (q 13, .inl (T 0, 8, .inl (Z 13))), (q 15, .inl (T 0, 3, .inl (Z 15)))] H := hP
  have hD : va_D A [(q 0, .inr (8, [.int (Z 0 0), .ref (q 2), .ref (q 3), .int (Z 0 3), .ref (q 5), .int (Z 0 5), .ref (q 7), .int (Z 0 7), .int (Z 0 8), .int (Z 0 9), .int (Z 0 10), .int (Z 0 11), .ref (q 13), .int (Z 0 13), .ref (q 15), .long g])), (q 2, .inl (T 0, 267, .inl (upd (Z 2) 0 (((Z 2) 0) + (nI 1))))), (q 3, .inl (T 0, 1602, .inl (Z 3))), (q 5, .inl (T 0, 267, .inl (Z 5))), (q 7, .inl (T 0, 60, .inl (Z 7))), (q 13, .inl (T 0, 8, .inl (Z 13))), (q 15, .inl (T 0, 3, .inl (Z 15)))] := hD
  refine n_iconst hx hb 0 dX8_rings_10 (by decide) ?_
  refine lv_istore_n (lv' := [(1, .int (nI 0)), (0, .ref (q 0))]) hx hb dX8_rings_11 rfl hl (by decide) rfl (fun ls hl => ?_)
  have L12 : ∀ (n9 k : Nat) (hk1 : k ≤ 6) (hk2 : 6 - k < n9) (x1 : Int32) (F_1 : Nat → Int32) (hx1 : x1 = nI k) (hF_1 : F_1 = mRiF (Z 2) k) (H : Heap) (locs : List Loc) (hP : va_P G vwCl [(q 0, .inr (8, [.int (Z 0 0), .ref (q 2), .ref (q 3), .int (Z 0 3), .ref (q 5), .int (Z 0 5), .ref (q 7), .int (Z 0 7), .int (Z 0 8), .int (Z 0 9), .int (Z 0 10), .int (Z 0 11), .ref (q 13), .int (Z 0 13), .ref (q 15), .long g])), (q 2, .inl (T 0, 267, .inl F_1)), (q 3, .inl (T 0, 1602, .inl (Z 3))), (q 5, .inl (T 0, 267, .inl (Z 5))), (q 7, .inl (T 0, 60, .inl (Z 7))), (q 13, .inl (T 0, 8, .inl (Z 13))), (q 15, .inl (T 0, 3, .inl (Z 15)))] H) (hD : va_D A [(q 0, .inr (8, [.int (Z 0 0), .ref (q 2), .ref (q 3), .int (Z 0 3), .ref (q 5), .int (Z 0 5), .ref (q 7), .int (Z 0 7), .int (Z 0 8), .int (Z 0 9), .int (Z 0 10), .int (Z 0 11), .ref (q 13), .int (Z 0 13), .ref (q 15), .long g])), (q 2, .inl (T 0, 267, .inl F_1)), (q 3, .inl (T 0, 1602, .inl (Z 3))), (q 5, .inl (T 0, 267, .inl (Z 5))), (q 7, .inl (T 0, 60, .inl (Z 7))), (q 13, .inl (T 0, 8, .inl (Z 13))), (q 15, .inl (T 0, 3, .inl (Z 15)))]) (hS : va_S A s.heap H locs) (ls : Array Slot) (hl : lv_has ls 2 [(1, .int x1), (0, .ref (q 0))]), W p l e (headSpec wsX8_rings (rmD 0 0 0)).room s m args below meth c H locs 0 0 Q0 (F0 m 12 ls []) := by
    intro n9
    induction n9 with
    | zero => intros; omega
    | succ n9 ih12 =>
      intro k hk1 hk2 x1 F_1 hx1 hF_1 H locs hP hD hS ls hl
      subst hx1 hF_1
      refine lv_iload_n hx hb dX8_rings_12 rfl (lv_at hl 0 rfl) ?_
      refine lv_bipush (v := nI 6) hx hb dX8_rings_13 (by decide) ?_
      refine n_icmp_ge (a := k) (b := 6) (tgt := 71) hx hb (by omega) (by decide) dX8_rings_15 (by decide) (fun c_2 => ?_) (fun c_3 => ?_)
      · skip
        obtain rfl : k = 6 := (by omega)
        refine lv_aload_n hx hb dX8_rings_71 rfl (lv_at hl 1 rfl) ?_
        refine va_get (D := G) (ci := 8) (v := .ref (q 2)) (C := RX8) (T := TX8) (N := 16) hx hb hts hinX8 hown hK hP 0 rfl rfl 1 (by decide) lk7 (fun _ h9 => h9) rfl dX8_rings_72 ?_
        refine n_iconst hx hb 0 dX8_rings_75 (by decide) ?_
        refine n_iald hx hb hK hP 1 0 rfl rfl 0 (by decide) (by decide) dX8_rings_76 ?_
        subst hQ
        have hP9 : va_P G vwCl (oX8 T q (sa Z 2 (mRiF (Z 2) 6)) g) H := hP
        have hD9 : va_D A (oX8 T q (sa Z 2 (mRiF (Z 2) 6)) g) := hD
        exact e_rwi hx hb hr hlocks hS (by first | rfl | simp [bI, c_2]) hP9 hD9 dX8_rings_77
      · skip
        refine lv_aload_n hx hb dX8_rings_18 rfl (lv_at hl 1 rfl) ?_
        refine va_get (D := G) (ci := 8) (v := .ref (q 2)) (C := RX8) (T := TX8) (N := 16) hx hb hts hinX8 hown hK hP 0 rfl rfl 1 (by decide) lk7 (fun _ h9 => h9) rfl dX8_rings_19 ?_
        refine lv_bipush (v := nI 14) hx hb dX8_rings_22 (by decide) ?_
        refine n_iconst hx hb 5 dX8_rings_24 (by decide) ?_
        refine lv_iload_n hx hb dX8_rings_25 rfl (lv_at hl 0 rfl) ?_
        refine n_imul (a := 5) (b := k) hx hb dX8_rings_26 ?_
        refine n_iadd (a := 14) (b := 5 * k) hx hb dX8_rings_27 ?_
        refine n_iconst hx hb 2 dX8_rings_28 (by decide) ?_
        refine n_iadd (a := 14 + 5 * k) (b := 2) hx hb dX8_rings_29 ?_
        refine n_iconst hx hb 0 dX8_rings_30 (by decide) ?_
        refine n_iast hx hb hK hP hD hS 1 0 rfl rfl (14 + 5 * k + 2) (by omega) (by decide) dX8_rings_31 (fun H locs hP hD hS => ?_)
        have hP : va_P G vwCl [(q 0, .inr (8, [.int (Z 0 0), .ref (q 2), .ref (q 3), .int (Z 0 3), .ref (q 5), .int (Z 0 5), .ref (q 7), .int (Z 0 7), .int (Z 0 8), .int (Z 0 9), .int (Z 0 10), .int (Z 0 11), .ref (q 13), .int (Z 0 13), .ref (q 15), .long g])), (q 2, .inl (T 0, 267, .inl (upd (mRiF (Z 2) k) (14 + 5 * k + 2) (nI 0)))), (q 3, .inl (T 0, 1602, .inl (Z 3))), (q 5, .inl (T 0, 267, .inl (Z 5))), (q 7, .inl (T 0, 60, .inl (Z 7))), (q 13, .inl (T 0, 8, .inl (Z 13))), (q 15, .inl (T 0, 3, .inl (Z 15)))] H := hP
        have hD : va_D A [(q 0, .inr (8, [.int (Z 0 0), .ref (q 2), .ref (q 3), .int (Z 0 3), .ref (q 5), .int (Z 0 5), .ref (q 7), .int (Z 0 7), .int (Z 0 8), .int (Z 0 9), .int (Z 0 10), .int (Z 0 11), .ref (q 13), .int (Z 0 13), .ref (q 15), .long g])), (q 2, .inl (T 0, 267, .inl (upd (mRiF (Z 2) k) (14 + 5 * k + 2) (nI 0)))), (q 3, .inl (T 0, 1602, .inl (Z 3))), (q 5, .inl (T 0, 267, .inl (Z 5))), (q 7, .inl (T 0, 60, .inl (Z 7))), (q 13, .inl (T 0, 8, .inl (Z 13))), (q 15, .inl (T 0, 3, .inl (Z 15)))] := hD
        refine lv_aload_n hx hb dX8_rings_32 rfl (lv_at hl 1 rfl) ?_
        refine va_get (D := G) (ci := 8) (v := .ref (q 2)) (C := RX8) (T := TX8) (N := 16) hx hb hts hinX8 hown hK hP 0 rfl rfl 1 (by decide) lk7 (fun _ h9 => h9) rfl dX8_rings_33 ?_
        refine lv_bipush (v := nI 14) hx hb dX8_rings_36 (by decide) ?_
        refine n_iconst hx hb 5 dX8_rings_38 (by decide) ?_
        refine lv_iload_n hx hb dX8_rings_39 rfl (lv_at hl 0 rfl) ?_
        refine n_imul (a := 5) (b := k) hx hb dX8_rings_40 ?_
        refine n_iadd (a := 14) (b := 5 * k) hx hb dX8_rings_41 ?_
        refine n_iconst hx hb 1 dX8_rings_42 (by decide) ?_
        refine n_iadd (a := 14 + 5 * k) (b := 1) hx hb dX8_rings_43 ?_
        refine lv_dup2_11 hx hb dX8_rings_44 rfl rfl ?_
        refine n_iald hx hb hK hP 1 0 rfl rfl (14 + 5 * k + 1) (by omega) (by decide) dX8_rings_45 ?_
        refine lv_aload_n hx hb dX8_rings_46 rfl (lv_at hl 1 rfl) ?_
        refine va_get (D := G) (ci := 8) (v := .ref (q 2)) (C := RX8) (T := TX8) (N := 16) hx hb hts hinX8 hown hK hP 0 rfl rfl 1 (by decide) lk7 (fun _ h9 => h9) rfl dX8_rings_47 ?_
        refine n_iconst hx hb 0 dX8_rings_50 (by decide) ?_
        refine n_iald hx hb hK hP 1 0 rfl rfl 0 (by decide) (by decide) dX8_rings_51 ?_
        refine lv_bipush (v := nI 7) hx hb dX8_rings_52 (by decide) ?_
        refine x_irem hx hb (nI_ne0 (by decide) (by decide)) dX8_rings_54 ?_
        have J_4 : ∀ y9 : Int32, y9 = (mRiB (upd (mRiF (Z 2) k) (14 + 5 * k + 2) (nI 0))) → W p l e (headSpec wsX8_rings (rmD 0 0 0)).room s m args below meth c H locs 0 0 Q0 (F0 m 63 ls (.int y9 :: .int ((upd (mRiF (Z 2) k) (14 + 5 * k + 2) (nI 0)) (14 + 5 * k + 1)) :: .int (nI (14 + 5 * k + 1)) :: .ref (q 2) :: [])) := by
          intro y9 hy9
          subst hy9
          refine lv_imul hx hb dX8_rings_63 ?_
          refine n_iast hx hb hK hP hD hS 1 0 rfl rfl (14 + 5 * k + 1) (by omega) (by decide) dX8_rings_64 (fun H locs hP hD hS => ?_)
          have hP : va_P G vwCl [(q 0, .inr (8, [.int (Z 0 0), .ref (q 2), .ref (q 3), .int (Z 0 3), .ref (q 5), .int (Z 0 5), .ref (q 7), .int (Z 0 7), .int (Z 0 8), .int (Z 0 9), .int (Z 0 10), .int (Z 0 11), .ref (q 13), .int (Z 0 13), .ref (q 15), .long g])), (q 2, .inl (T 0, 267, .inl (upd (upd (mRiF (Z 2) k) (14 + 5 * k + 2) (nI 0)) (14 + 5 * k + 1) (((upd (mRiF (Z 2) k) (14 + 5 * k + 2) (nI 0)) (14 + 5 * k + 1)) * (mRiB (upd (mRiF (Z 2) k) (14 + 5 * k + 2) (nI 0))))))), (q 3, .inl (T 0, 1602, .inl (Z 3))), (q 5, .inl (T 0, 267, .inl (Z 5))), (q 7, .inl (T 0, 60, .inl (Z 7))), (q 13, .inl (T 0, 8, .inl (Z 13))), (q 15, .inl (T 0, 3, .inl (Z 15)))] H := hP
          have hD : va_D A [(q 0, .inr (8, [.int (Z 0 0), .ref (q 2), .ref (q 3), .int (Z 0 3), .ref (q 5), .int (Z 0 5), .ref (q 7), .int (Z 0 7), .int (Z 0 8), .int (Z 0 9), .int (Z 0 10), .int (Z 0 11), .ref (q 13), .int (Z 0 13), .ref (q 15), .long g])), (q 2, .inl (T 0, 267, .inl (upd (upd (mRiF (Z 2) k) (14 + 5 * k + 2) (nI 0)) (14 + 5 * k + 1) (((upd (mRiF (Z 2) k) (14 + 5 * k + 2) (nI 0)) (14 + 5 * k + 1)) * (mRiB (upd (mRiF (Z 2) k) (14 + 5 * k + 2) (nI 0))))))), (q 3, .inl (T 0, 1602, .inl (Z 3))), (q 5, .inl (T 0, 267, .inl (Z 5))), (q 7, .inl (T 0, 60, .inl (Z 7))), (q 13, .inl (T 0, 8, .inl (Z 13))), (q 15, .inl (T 0, 3, .inl (Z 15)))] := hD
          refine lv_iinc (v := nI (k + 1)) (lv' := [(1, .int (nI (k + 1))), (0, .ref (q 0))]) hx hb dX8_rings_65 hl (k := 0) rfl (n_inc k 1 rfl) (by decide) rfl (fun ls hl => ?_)
          refine lv_goto (tgt := 12) hx hb dX8_rings_68 (by decide) ?_
          have e_5 : (upd (upd (mRiF (Z 2) k) (14 + 5 * k + 2) (nI 0)) (14 + 5 * k + 1) (((upd (mRiF (Z 2) k) (14 + 5 * k + 2) (nI 0)) (14 + 5 * k + 1)) * (mRiB (upd (mRiF (Z 2) k) (14 + 5 * k + 2) (nI 0))))) = mRiF (Z 2) (k + 1) := rfl
          exact ih12 (k + 1) (by omega) (by omega) _ _ rfl e_5 _ _ hP hD hS _ (lv_sub hl [0, 1] rfl)
        refine lv_if_ne (tgt := 62) hx hb dX8_rings_55 (by decide) (fun c_6 => ?_) (fun c_7 => ?_)
        · skip
          refine n_iconst hx hb 1 dX8_rings_62 (by decide) ?_
          exact J_4 _ (by unfold mRiB; first | rw [if_pos c_6] | rw [if_neg c_6])
        · skip
          refine n_iconst hx hb 0 dX8_rings_58 (by decide) ?_
          refine lv_goto (tgt := 63) hx hb dX8_rings_59 (by decide) ?_
          exact J_4 _ (by unfold mRiB; first | rw [if_pos c_7] | rw [if_neg c_7])
  exact L12 (6 + 1) 0 (by omega) (by omega) _ _ rfl rfl _ _ hP hD hS _ (lv_sub hl [0, 1] rfl)
set_option maxHeartbeats 4000000 in
set_option maxRecDepth 100000 in
theorem c_X8_changeKey (l : Launch) (G : va_G) (T : Nat → ClassId) (sz : Nat) (q : Nat → Nat) (Z : Nat → Nat → Int32) (g : Int64) (x : Int32) : RWi l yX8_changeKey wsX8_changeKey 0 0 0 G T sz (oX8 T q Z g) [.ref (q 0), .int x] (Z 2 1) (oX8 T q (sa Z 2 (upd (Z 2) 1 x)) g) := by
  refine Met.ofW (cc := cX8_changeKey) (maxL := 3) (ret := (some .int)) (by decide) rfl ?_
  intro p e s m args below meth c s₁ B hml hv
  obtain ⟨ha, hsz, hP, hK, hD0, hE0⟩ := hv
  have hx := B.exec
  have hb := B.bytes
  have hr := B.returns
  have hlocks := B.notSynchronized
  have hts := atoms_spec (ws := wsX8_changeKey) B.pre
  have hown : s.vm.findClass RX8 = some m.cls := findClass_of_methodNamed B.named
  have cx : CallFix p m c cX8_changeKey 3 s args wsX8_changeKey RX8 := ⟨hx, hb, hml, hown, hts⟩
  subst hsz
  have hD := hD0.self (sz := s.heap.size)
  generalize hAe : va_A (oX8 T q Z g) s.heap.size = A at hD hE0 ⊢
  have hE : gE A s s.heap := hE0
  have hA : ∀ q : Nat, s.heap.size ≤ q → A q := fun q h => by rw [← hAe]; exact Or.inr h
  have hS : va_S A s.heap s.heap [] := va_S.rf
  refine w_entry ha (Nat.le_of_ble_eq_true rfl) (fun ls hl => ?_)
  refine w_q (fun Q0 hQ => ?_)
  have lk7 := hts (.fieldLink RX8 7 "WhistleTunesModel" "state" "[I") (by decide +kernel)
  have hinX8 : ∀ w ∈ wsX80, w ∈ wsX8_changeKey := by decide +kernel
  have hl : lv_has ls 3 [(0, .ref (q 0)), (1, .int x)] := hl
  have hP : va_P G vwCl [(q 0, .inr (8, [.int (Z 0 0), .ref (q 2), .ref (q 3), .int (Z 0 3), .ref (q 5), .int (Z 0 5), .ref (q 7), .int (Z 0 7), .int (Z 0 8), .int (Z 0 9), .int (Z 0 10), .int (Z 0 11), .ref (q 13), .int (Z 0 13), .ref (q 15), .long g])), (q 2, .inl (T 0, 267, .inl (Z 2))), (q 3, .inl (T 0, 1602, .inl (Z 3))), (q 5, .inl (T 0, 267, .inl (Z 5))), (q 7, .inl (T 0, 60, .inl (Z 7))), (q 13, .inl (T 0, 8, .inl (Z 13))), (q 15, .inl (T 0, 3, .inl (Z 15)))] s.heap := hP
  have hD : va_D A [(q 0, .inr (8, [.int (Z 0 0), .ref (q 2), .ref (q 3), .int (Z 0 3), .ref (q 5), .int (Z 0 5), .ref (q 7), .int (Z 0 7), .int (Z 0 8), .int (Z 0 9), .int (Z 0 10), .int (Z 0 11), .ref (q 13), .int (Z 0 13), .ref (q 15), .long g])), (q 2, .inl (T 0, 267, .inl (Z 2))), (q 3, .inl (T 0, 1602, .inl (Z 3))), (q 5, .inl (T 0, 267, .inl (Z 5))), (q 7, .inl (T 0, 60, .inl (Z 7))), (q 13, .inl (T 0, 8, .inl (Z 13))), (q 15, .inl (T 0, 3, .inl (Z 15)))] := hD
  skip
  refine w_h (fun H locs hHe hLe => ?_)
  have hP : va_P G vwCl [(q 0, .inr (8, [.int (Z 0 0), .ref (q 2), .ref (q 3), .int (Z 0 3), .ref (q 5), .int (Z 0 5), .ref (q 7), .int (Z 0 7), .int (Z 0 8), .int (Z 0 9), .int (Z 0 10), .int (Z 0 11), .ref (q 13), .int (Z 0 13), .ref (q 15), .long g])), (q 2, .inl (T 0, 267, .inl (Z 2))), (q 3, .inl (T 0, 1602, .inl (Z 3))), (q 5, .inl (T 0, 267, .inl (Z 5))), (q 7, .inl (T 0, 60, .inl (Z 7))), (q 13, .inl (T 0, 8, .inl (Z 13))), (q 15, .inl (T 0, 3, .inl (Z 15)))] H := by rw [hHe]; exact hP
  have hS : va_S A s.heap H locs := by rw [hHe, hLe]; exact hS
  refine lv_aload_n hx hb dX8_changeKey_0 rfl (lv_at hl 0 rfl) ?_
  refine va_get (D := G) (ci := 8) (v := .ref (q 2)) (C := RX8) (T := TX8) (N := 16) hx hb hts hinX8 hown hK hP 0 rfl rfl 1 (by decide) lk7 (fun _ h9 => h9) rfl dX8_changeKey_1 ?_
  refine n_iconst hx hb 1 dX8_changeKey_4 (by decide) ?_
  refine n_iald hx hb hK hP 1 0 rfl rfl 1 (by decide) (by decide) dX8_changeKey_5 ?_
  refine lv_istore_n (lv' := [(2, .int ((Z 2) 1)), (0, .ref (q 0)), (1, .int x)]) hx hb dX8_changeKey_6 rfl hl (by decide) rfl (fun ls hl => ?_)
  refine lv_aload_n hx hb dX8_changeKey_7 rfl (lv_at hl 1 rfl) ?_
  refine va_get (D := G) (ci := 8) (v := .ref (q 2)) (C := RX8) (T := TX8) (N := 16) hx hb hts hinX8 hown hK hP 0 rfl rfl 1 (by decide) lk7 (fun _ h9 => h9) rfl dX8_changeKey_8 ?_
  refine n_iconst hx hb 1 dX8_changeKey_11 (by decide) ?_
  refine lv_iload_n hx hb dX8_changeKey_12 rfl (lv_at hl 2 rfl) ?_
  refine n_iast hx hb hK hP hD hS 1 0 rfl rfl 1 (by decide) (by decide) dX8_changeKey_13 (fun H locs hP hD hS => ?_)
  have hP : va_P G vwCl [(q 0, .inr (8, [.int (Z 0 0), .ref (q 2), .ref (q 3), .int (Z 0 3), .ref (q 5), .int (Z 0 5), .ref (q 7), .int (Z 0 7), .int (Z 0 8), .int (Z 0 9), .int (Z 0 10), .int (Z 0 11), .ref (q 13), .int (Z 0 13), .ref (q 15), .long g])), (q 2, .inl (T 0, 267, .inl (upd (Z 2) 1 x))), (q 3, .inl (T 0, 1602, .inl (Z 3))), (q 5, .inl (T 0, 267, .inl (Z 5))), (q 7, .inl (T 0, 60, .inl (Z 7))), (q 13, .inl (T 0, 8, .inl (Z 13))), (q 15, .inl (T 0, 3, .inl (Z 15)))] H := hP
  have hD : va_D A [(q 0, .inr (8, [.int (Z 0 0), .ref (q 2), .ref (q 3), .int (Z 0 3), .ref (q 5), .int (Z 0 5), .ref (q 7), .int (Z 0 7), .int (Z 0 8), .int (Z 0 9), .int (Z 0 10), .int (Z 0 11), .ref (q 13), .int (Z 0 13), .ref (q 15), .long g])), (q 2, .inl (T 0, 267, .inl (upd (Z 2) 1 x))), (q 3, .inl (T 0, 1602, .inl (Z 3))), (q 5, .inl (T 0, 267, .inl (Z 5))), (q 7, .inl (T 0, 60, .inl (Z 7))), (q 13, .inl (T 0, 8, .inl (Z 13))), (q 15, .inl (T 0, 3, .inl (Z 15)))] := hD
  refine lv_iload_n hx hb dX8_changeKey_14 rfl (lv_at hl 0 rfl) ?_
  subst hQ
  have hP9 : va_P G vwCl (oX8 T q (sa Z 2 (upd (Z 2) 1 x)) g) H := hP
  have hD9 : va_D A (oX8 T q (sa Z 2 (upd (Z 2) 1 x)) g) := hD
  exact e_rwi hx hb hr hlocks hS (by first | rfl | simp [bI]) hP9 hD9 dX8_changeKey_15
set_option maxHeartbeats 4000000 in
set_option maxRecDepth 100000 in
theorem c_X8_tells (l : Launch) (G : va_G) (T : Nat → ClassId) (sz : Nat) (q : Nat → Nat) (Z : Nat → Nat → Int32) (g : Int64) (r : Nat) (hr6 : r < 6) : RWi l yX8_tells wsX8_tells 1 0 0 G T sz (oX8 T q Z g) [.ref (q 0), .int (nI r)] (Z 2 (14 + 5 * r)) (oX8 T q (sa Z 2 (upd (Z 2) (14 + 5 * r) (Z 2 1))) g) := by
  refine Met.ofW (cc := cX8_tells) (maxL := 3) (ret := (some .int)) (by decide) rfl ?_
  intro p e s m args below meth c s₁ B hml hv
  obtain ⟨ha, hsz, hP, hK, hD0, hE0⟩ := hv
  have hx := B.exec
  have hb := B.bytes
  have hr := B.returns
  have hlocks := B.notSynchronized
  have hts := atoms_spec (ws := wsX8_tells) B.pre
  have hown : s.vm.findClass RX8 = some m.cls := findClass_of_methodNamed B.named
  have cx : CallFix p m c cX8_tells 3 s args wsX8_tells RX8 := ⟨hx, hb, hml, hown, hts⟩
  subst hsz
  have hD := hD0.self (sz := s.heap.size)
  generalize hAe : va_A (oX8 T q Z g) s.heap.size = A at hD hE0 ⊢
  have hE : gE A s s.heap := hE0
  have hA : ∀ q : Nat, s.heap.size ≤ q → A q := fun q h => by rw [← hAe]; exact Or.inr h
  have hS : va_S A s.heap s.heap [] := va_S.rf
  refine w_entry ha (Nat.le_of_ble_eq_true rfl) (fun ls hl => ?_)
  refine w_q (fun Q0 hQ => ?_)
  have lk7 := hts (.fieldLink RX8 7 "WhistleTunesModel" "state" "[I") (by decide +kernel)
  have hinX8 : ∀ w ∈ wsX80, w ∈ wsX8_tells := by decide +kernel
  have hl : lv_has ls 3 [(0, .ref (q 0)), (1, .int (nI r))] := hl
  have hP : va_P G vwCl [(q 0, .inr (8, [.int (Z 0 0), .ref (q 2), .ref (q 3), .int (Z 0 3), .ref (q 5), .int (Z 0 5), .ref (q 7), .int (Z 0 7), .int (Z 0 8), .int (Z 0 9), .int (Z 0 10), .int (Z 0 11), .ref (q 13), .int (Z 0 13), .ref (q 15), .long g])), (q 2, .inl (T 0, 267, .inl (Z 2))), (q 3, .inl (T 0, 1602, .inl (Z 3))), (q 5, .inl (T 0, 267, .inl (Z 5))), (q 7, .inl (T 0, 60, .inl (Z 7))), (q 13, .inl (T 0, 8, .inl (Z 13))), (q 15, .inl (T 0, 3, .inl (Z 15)))] s.heap := hP
  have hD : va_D A [(q 0, .inr (8, [.int (Z 0 0), .ref (q 2), .ref (q 3), .int (Z 0 3), .ref (q 5), .int (Z 0 5), .ref (q 7), .int (Z 0 7), .int (Z 0 8), .int (Z 0 9), .int (Z 0 10), .int (Z 0 11), .ref (q 13), .int (Z 0 13), .ref (q 15), .long g])), (q 2, .inl (T 0, 267, .inl (Z 2))), (q 3, .inl (T 0, 1602, .inl (Z 3))), (q 5, .inl (T 0, 267, .inl (Z 5))), (q 7, .inl (T 0, 60, .inl (Z 7))), (q 13, .inl (T 0, 8, .inl (Z 13))), (q 15, .inl (T 0, 3, .inl (Z 15)))] := hD
  skip
  refine w_h (fun H locs hHe hLe => ?_)
  have hP : va_P G vwCl [(q 0, .inr (8, [.int (Z 0 0), .ref (q 2), .ref (q 3), .int (Z 0 3), .ref (q 5), .int (Z 0 5), .ref (q 7), .int (Z 0 7), .int (Z 0 8), .int (Z 0 9), .int (Z 0 10), .int (Z 0 11), .ref (q 13), .int (Z 0 13), .ref (q 15), .long g])), (q 2, .inl (T 0, 267, .inl (Z 2))), (q 3, .inl (T 0, 1602, .inl (Z 3))), (q 5, .inl (T 0, 267, .inl (Z 5))), (q 7, .inl (T 0, 60, .inl (Z 7))), (q 13, .inl (T 0, 8, .inl (Z 13))), (q 15, .inl (T 0, 3, .inl (Z 15)))] H := by rw [hHe]; exact hP
  have hS : va_S A s.heap H locs := by rw [hHe, hLe]; exact hS
  refine lv_aload_n hx hb dX8_tells_0 rfl (lv_at hl 0 rfl) ?_
  refine lv_iload_n hx hb dX8_tells_1 rfl (lv_at hl 1 rfl) ?_
  refine n_iconst hx hb 0 dX8_tells_2 (by decide) ?_
  refine k_roV (As := [.int (nI r), .int (nI 0)]) (rest := []) (wc := oX8 T q Z g) (d := 0) (v := (Z 2) (14 + 5 * r)) cx (c_X8_ofRoom l G T A q Z g r 0 (by omega) (by omega)) (cwV 2 hts gX8_tells_X8_ofRoom rfl rfl rfl (by decide +kernel) ⟨Nat.le_of_ble_eq_true rfl, Nat.le_of_ble_eq_true rfl⟩) hP hK (hE.kept hS.2.1) (va_recv hK hP (ci := 8) (q0 := 0) rfl rfl) rfl hl.1 rfl (Nat.le_of_ble_eq_true rfl) dX8_tells_3 ⟨Nat.le_of_ble_eq_true rfl, Nat.le_of_ble_eq_true rfl⟩ ?_
  refine lv_istore_n (lv' := [(2, .int ((Z 2) (14 + 5 * r))), (0, .ref (q 0)), (1, .int (nI r))]) hx hb dX8_tells_6 rfl hl (by decide) rfl (fun ls hl => ?_)
  refine lv_aload_n hx hb dX8_tells_7 rfl (lv_at hl 1 rfl) ?_
  refine va_get (D := G) (ci := 8) (v := .ref (q 2)) (C := RX8) (T := TX8) (N := 16) hx hb hts hinX8 hown hK hP 0 rfl rfl 1 (by decide) lk7 (fun _ h9 => h9) rfl dX8_tells_8 ?_
  refine lv_bipush (v := nI 14) hx hb dX8_tells_11 (by decide) ?_
  refine n_iconst hx hb 5 dX8_tells_13 (by decide) ?_
  refine lv_iload_n hx hb dX8_tells_14 rfl (lv_at hl 2 rfl) ?_
  refine n_imul (a := 5) (b := r) hx hb dX8_tells_15 ?_
  refine n_iadd (a := 14) (b := 5 * r) hx hb dX8_tells_16 ?_
  refine n_iconst hx hb 0 dX8_tells_17 (by decide) ?_
  refine n_iadd (a := 14 + 5 * r) (b := 0) hx hb dX8_tells_18 ?_
  refine n_top (y := nI (14 + 5 * r)) rfl ?_
  refine lv_aload_n hx hb dX8_tells_19 rfl (lv_at hl 1 rfl) ?_
  refine va_get (D := G) (ci := 8) (v := .ref (q 2)) (C := RX8) (T := TX8) (N := 16) hx hb hts hinX8 hown hK hP 0 rfl rfl 1 (by decide) lk7 (fun _ h9 => h9) rfl dX8_tells_20 ?_
  refine n_iconst hx hb 1 dX8_tells_23 (by decide) ?_
  refine n_iald hx hb hK hP 1 0 rfl rfl 1 (by decide) (by decide) dX8_tells_24 ?_
  refine n_iast hx hb hK hP hD hS 1 0 rfl rfl (14 + 5 * r) (by omega) (by decide) dX8_tells_25 (fun H locs hP hD hS => ?_)
  have hP : va_P G vwCl [(q 0, .inr (8, [.int (Z 0 0), .ref (q 2), .ref (q 3), .int (Z 0 3), .ref (q 5), .int (Z 0 5), .ref (q 7), .int (Z 0 7), .int (Z 0 8), .int (Z 0 9), .int (Z 0 10), .int (Z 0 11), .ref (q 13), .int (Z 0 13), .ref (q 15), .long g])), (q 2, .inl (T 0, 267, .inl (upd (Z 2) (14 + 5 * r) ((Z 2) 1)))), (q 3, .inl (T 0, 1602, .inl (Z 3))), (q 5, .inl (T 0, 267, .inl (Z 5))), (q 7, .inl (T 0, 60, .inl (Z 7))), (q 13, .inl (T 0, 8, .inl (Z 13))), (q 15, .inl (T 0, 3, .inl (Z 15)))] H := hP
  have hD : va_D A [(q 0, .inr (8, [.int (Z 0 0), .ref (q 2), .ref (q 3), .int (Z 0 3), .ref (q 5), .int (Z 0 5), .ref (q 7), .int (Z 0 7), .int (Z 0 8), .int (Z 0 9), .int (Z 0 10), .int (Z 0 11), .ref (q 13), .int (Z 0 13), .ref (q 15), .long g])), (q 2, .inl (T 0, 267, .inl (upd (Z 2) (14 + 5 * r) ((Z 2) 1)))), (q 3, .inl (T 0, 1602, .inl (Z 3))), (q 5, .inl (T 0, 267, .inl (Z 5))), (q 7, .inl (T 0, 60, .inl (Z 7))), (q 13, .inl (T 0, 8, .inl (Z 13))), (q 15, .inl (T 0, 3, .inl (Z 15)))] := hD
  refine lv_iload_n hx hb dX8_tells_26 rfl (lv_at hl 0 rfl) ?_
  subst hQ
  have e_1 : (upd (Z 2) (14 + 5 * r) ((Z 2) 1)) = upd (Z 2) (14 + 5 * r) (Z 2 1) := (by first | rfl | simp [bI])
  rw [e_1] at hP hD
  have hP9 : va_P G vwCl (oX8 T q (sa Z 2 (upd (Z 2) (14 + 5 * r) (Z 2 1))) g) H := hP
  have hD9 : va_D A (oX8 T q (sa Z 2 (upd (Z 2) (14 + 5 * r) (Z 2 1))) g) := hD
  exact e_rwi hx hb hr hlocks hS (by first | rfl | simp [bI]) hP9 hD9 dX8_tells_27
