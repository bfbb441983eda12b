/-! the reference's whistles, parts and nodes: what they do (pure), then their contracts (printed by wip/whole/s52.py) -/
theorem mNear_e {Z Y : Nat → Nat → Int32} (h3 : Z 2 3 = Y 2 3) (f o : Nat) : mNear Z f o = mNear Y f o := by unfold mNear; rw [h3]
theorem mF1_e {Z Y : Nat → Nat → Int32} (h3 : Z 2 3 = Y 2 3) (f k : Nat) : mF1 Z f k = mF1 Y f k := by
  induction k with
  | zero => rfl
  | succ k ih => simp only [mF1]; rw [ih, mNear_e h3]
theorem mF2_e {Z Y : Nat → Nat → Int32} (h2 : Z 2 2 = Y 2 2) (h3 : Z 2 3 = Y 2 3) (f k : Nat) : mF2 Z f k = mF2 Y f k := by
  induction k with
  | zero => exact mF1_e h3 f 3
  | succ k ih =>
    have h5 : mPs Z (mF2 Y f k) k = mPs Y (mF2 Y f k) k := by unfold mPs; rw [h2]
    simp only [mF2]
    rw [ih, h5, mNear_e h3]
def mWh0 (Z : Nat → Nat → Int32) (r m : Nat) : Nat → Int32 := upd (upd (upd (upd (upd (upd (Z 2) 6 (nI r)) 7 (nI m)) 8 (mF2 Z (r / 2) 27)) 9 (mKn Z r 6)) 10 (mCa Z r m 3)) 11 (mRa Z r m)
def mBit (x : Int32) (k : Nat) : Bool := decide (iShr x (nI k) &&& nI 1 = nI 1)
def mW1a (kn : Int32) (w : Nat → Int32) (k : Nat) : Nat → Int32 := upd w (14 + 5 * k + 3) ((w (14 + 5 * k + 3)) + bI (mBit kn k))
def mW1b (h kn : Int32) (w : Nat → Int32) (k : Nat) : Nat → Int32 := upd (mW1a kn w k) (14 + 5 * k + 4) ((mW1a kn w k (14 + 5 * k + 4)) + bI (mBit h k && !mBit kn k))
def mW1 (h kn ra : Int32) (w : Nat → Int32) (k : Nat) : Nat → Int32 := upd (mW1b h kn w k) (14 + 5 * k + 2) (mW1b h kn w k (14 + 5 * k + 2) ||| (iShr ra (nI k) &&& nI 1))
def mWhL (Z : Nat → Nat → Int32) (r m : Nat) : Nat → (Nat → Int32) | 0 => mWh0 Z r m | k + 1 => mW1 (mHe Z r 6) (mKn Z r 6) (mRa Z r m) (mWhL Z r m k) k
def mWh2 (Z : Nat → Nat → Int32) (r m : Nat) : Nat → Int32 := upd (mWhL Z r m 6) (14 + 5 * r + 1) ((mWhL Z r m 6 (14 + 5 * r + 1)) + mOn (mCa Z r m 3) 6)
def mWh3 (Z : Nat → Nat → Int32) (r m : Nat) : Nat → Int32 := upd (mWh2 Z r m) (47 + 11 * m + 1) (mWh2 Z r m (47 + 11 * m + 1) + nI 1)
def mWh4 (Z : Nat → Nat → Int32) (r m : Nat) : Nat → Int32 := upd (mWh3 Z r m) (47 + 11 * m + 2) (mWh3 Z r m (47 + 11 * m + 2) + mOn (mKn Z r 6) 6)
def mWhF (Z : Nat → Nat → Int32) (r m : Nat) : Nat → Int32 := upd (mWh4 Z r m) 5 (mWh4 Z r m 5 + nI 1)
/-- why a part that was read can't happen -/
def mPy (Z : Nat → Nat → Int32) (sg fi se n : Nat) : Int32 := if sg = 119 then mWy Z fi se else if sg = 33 ∨ sg = 107 ∨ sg = 116 then nI 0 else mWT Z fi n
def mDoV (Z : Nat → Nat → Int32) (sg fi n : Nat) : Int32 := if sg = 33 then mRiF (Z 2) 6 0 else if sg = 107 then Z 2 1 else if sg = 116 then Z 2 (14 + 5 * fi) else if sg = 119 then mOn (mKn Z fi 6) 6 else nI n
def mDoF (Z : Nat → Nat → Int32) (sg fi se n : Nat) : Nat → Int32 := if sg = 33 then mRiF (Z 2) 6 else if sg = 107 then upd (Z 2) 1 (nI fi) else if sg = 116 then upd (Z 2) (14 + 5 * fi) (Z 2 1) else if sg = 119 then mWhF Z fi se else mTcF (Z 2) (Z 13) fi n 8
/-- the nodes of the tree -/
def mNw (Z : Nat → Nat → Int32) (m n : Nat) : Nat → Bool | 0 => true | k + 1 => mNw Z m n k && !mBA Z m k n n
def mNd1 (Z : Nat → Nat → Int32) (m : Nat) (s : Nat) : Nat → Nat | 0 => s | n + 1 => mNd1 Z m s n + (if mNw Z m (n + 1) m then 1 else 0)
def mNd (Z : Nat → Nat → Int32) (ln : Nat → Nat) : Nat → Nat | 0 => 0 | k + 1 => mNd1 Z k (mNd Z ln k) (ln k)
theorem mNd1_le {Z : Nat → Nat → Int32} {m s n : Nat} : mNd1 Z m s n ≤ s + n := by
  induction n with
  | zero => exact Nat.le_refl _
  | succ n ih => simp only [mNd1]; split <;> omega
theorem mNd_le {Z : Nat → Nat → Int32} {ln : Nat → Nat} {k : Nat} (h : ∀ i : Nat, i < k → ln i ≤ 8) : mNd Z ln k ≤ 8 * k := by
  induction k with
  | zero => exact Nat.le_refl _
  | succ k ih =>
    have h1 := ih (fun i hi => h i (by omega))
    have h2 := h k (by omega)
    have h3 := mNd1_le (Z := Z) (m := k) (s := mNd Z ln k) (n := ln k)
    simp only [mNd]
    omega

set_option maxHeartbeats 4000000 in
set_option maxRecDepth 100000 in
theorem c_X8_whistles (l : Launch) (G : va_G) (T : Nat → ClassId) (sz : Nat) (q : Nat → Nat) (Z : Nat → Nat → Int32) (g : Int64) (r : Nat) (mm : Nat) (hr6 : r < 6) (hm20 : mm < 20) : RWi l yX8_whistles wsX8_whistles 5 0 0 G T sz (oX8 T q Z g) [.ref (q 0), .int (nI r), .int (nI mm)] (mOn (mKn Z r 6) 6) (oX8 T q (sa Z 2 (mWhF Z r mm)) g) := by
  refine Met.ofW (cc := cX8_whistles) (maxL := 10) (ret := (some .int)) (by decide) rfl ?_
  intro p e s m args below meth c s₁ B hml hv
  obtain ⟨ha, hsz, hP, hK, hD0, hE0⟩ := hv
  have hx := B.exec
  have hb := B.bytes
  have hr := B.returns
  have hlocks := B.notSynchronized
  have hts := atoms_spec (ws := wsX8_whistles) B.pre
  have hown : s.vm.findClass RX8 = some m.cls := findClass_of_methodNamed B.named
  have cx : CallFix p m c cX8_whistles 10 s args wsX8_whistles RX8 := ⟨hx, hb, hml, hown, hts⟩
  subst hsz
  have hD := hD0.self (sz := s.heap.size)
  generalize hAe : va_A (oX8 T q Z g) s.heap.size = A at hD hE0 ⊢
  have hE : gE A s s.heap := hE0
  have hA : ∀ q : Nat, s.heap.size ≤ q → A q := fun q h => by rw [← hAe]; exact Or.inr h
  have hS : va_S A s.heap s.heap [] := va_S.rf
  refine w_entry ha (Nat.le_of_ble_eq_true rfl) (fun ls hl => ?_)
  refine w_q (fun Q0 hQ => ?_)
  have lk7 := hts (.fieldLink RX8 7 "WhistleTunesModel" "state" "[I") (by decide +kernel)
  have hinX8 : ∀ w ∈ wsX80, w ∈ wsX8_whistles := by decide +kernel
  have hl : lv_has ls 10 [(0, .ref (q 0)), (1, .int (nI r)), (2, .int (nI mm))] := hl
  have hP : va_P G vwCl [(q 0, .inr (8, [.int (Z 0 0), .ref (q 2), .ref (q 3), .int (Z 0 3), .ref (q 5), .int (Z 0 5), .ref (q 7), .int (Z 0 7), .int (Z 0 8), .int (Z 0 9), .int (Z 0 10), .int (Z 0 11), .ref (q 13), .int (Z 0 13), .ref (q 15), .long g])), (q 2, .inl (T 0, 267, .inl (Z 2))), (q 3, .inl (T 0, 1602, .inl (Z 3))), (q 5, .inl (T 0, 267, .inl (Z 5))), (q 7, .inl (T 0, 60, .inl (Z 7))), (q 13, .inl (T 0, 8, .inl (Z 13))), (q 15, .inl (T 0, 3, .inl (Z 15)))] s.heap := hP
  have hD : va_D A [(q 0, .inr (8, [.int (Z 0 0), .ref (q 2), .ref (q 3), .int (Z 0 3), .ref (q 5), .int (Z 0 5), .ref (q 7), .int (Z 0 7), .int (Z 0 8), .int (Z 0 9), .int (Z 0 10), .int (Z 0 11), .ref (q 13), .int (Z 0 13), .ref (q 15), .long g])), (q 2, .inl (T 0, 267, .inl (Z 2))), (q 3, .inl (T 0, 1602, .inl (Z 3))), (q 5, .inl (T 0, 267, .inl (Z 5))), (q 7, .inl (T 0, 60, .inl (Z 7))), (q 13, .inl (T 0, 8, .inl (Z 13))), (q 15, .inl (T 0, 3, .inl (Z 15)))] := hD
  skip
  refine w_h (fun H locs hHe hLe => ?_)
  have hP : va_P G vwCl [(q 0, .inr (8, [.int (Z 0 0), .ref (q 2), .ref (q 3), .int (Z 0 3), .ref (q 5), .int (Z 0 5), .ref (q 7), .int (Z 0 7), .int (Z 0 8), .int (Z 0 9), .int (Z 0 10), .int (Z 0 11), .ref (q 13), .int (Z 0 13), .ref (q 15), .long g])), (q 2, .inl (T 0, 267, .inl (Z 2))), (q 3, .inl (T 0, 1602, .inl (Z 3))), (q 5, .inl (T 0, 267, .inl (Z 5))), (q 7, .inl (T 0, 60, .inl (Z 7))), (q 13, .inl (T 0, 8, .inl (Z 13))), (q 15, .inl (T 0, 3, .inl (Z 15)))] H := by rw [hHe]; exact hP
  have hS : va_S A s.heap H locs := by rw [hHe, hLe]; exact hS
  refine lv_aload_n hx hb dX8_whistles_0 rfl (lv_at hl 0 rfl) ?_
  refine lv_iload_n hx hb dX8_whistles_1 rfl (lv_at hl 1 rfl) ?_
  refine k_roV (As := [.int (nI r)]) (rest := []) (wc := oX8 T q Z g) (d := 2) (v := mHe Z r 6) cx (c_X8_hearers l G T A q Z g r (by omega)) (cwV 1 hts gX8_whistles_X8_hearers rfl rfl rfl (by decide +kernel) ⟨Nat.le_of_ble_eq_true rfl, Nat.le_of_ble_eq_true rfl⟩) hP hK (hE.kept hS.2.1) (va_recv hK hP (ci := 8) (q0 := 0) rfl rfl) rfl hl.1 rfl (Nat.le_of_ble_eq_true rfl) dX8_whistles_2 ⟨Nat.le_of_ble_eq_true rfl, Nat.le_of_ble_eq_true rfl⟩ ?_
  refine lv_istore_n (lv' := [(3, .int (mHe Z r 6)), (0, .ref (q 0)), (1, .int (nI r)), (2, .int (nI mm))]) hx hb dX8_whistles_5 rfl hl (by decide) rfl (fun ls hl => ?_)
  refine lv_aload_n hx hb dX8_whistles_6 rfl (lv_at hl 1 rfl) ?_
  refine lv_iload_n hx hb dX8_whistles_7 rfl (lv_at hl 2 rfl) ?_
  refine k_roV (As := [.int (nI r)]) (rest := []) (wc := oX8 T q Z g) (d := 3) (v := mKn Z r 6) cx (c_X8_knowers l G T A q Z g r (by omega)) (cwV 1 hts gX8_whistles_X8_knowers rfl rfl rfl (by decide +kernel) ⟨Nat.le_of_ble_eq_true rfl, Nat.le_of_ble_eq_true rfl⟩) hP hK (hE.kept hS.2.1) (va_recv hK hP (ci := 8) (q0 := 0) rfl rfl) rfl hl.1 rfl (Nat.le_of_ble_eq_true rfl) dX8_whistles_8 ⟨Nat.le_of_ble_eq_true rfl, Nat.le_of_ble_eq_true rfl⟩ ?_
  refine lv_istore (lv' := [(4, .int (mKn Z r 6)), (3, .int (mHe Z r 6)), (0, .ref (q 0)), (1, .int (nI r)), (2, .int (nI mm))]) hx hb dX8_whistles_11 hl (by decide) rfl (fun ls hl => ?_)
  refine lv_aload_n hx hb dX8_whistles_13 rfl (lv_at hl 2 rfl) ?_
  refine lv_iload_n hx hb dX8_whistles_14 rfl (lv_at hl 3 rfl) ?_
  refine lv_iload_n hx hb dX8_whistles_15 rfl (lv_at hl 4 rfl) ?_
  refine k_roV (As := [.int (nI r), .int (nI mm)]) (rest := []) (wc := oX8 T q Z g) (d := 4) (v := mRa Z r mm) cx (c_X8_raisedBy l G T A q Z g r mm (by omega) (by omega)) (cwV 2 hts gX8_whistles_X8_raisedBy rfl rfl rfl (by decide +kernel) ⟨Nat.le_of_ble_eq_true rfl, Nat.le_of_ble_eq_true rfl⟩) hP hK (hE.kept hS.2.1) (va_recv hK hP (ci := 8) (q0 := 0) rfl rfl) rfl hl.1 rfl (Nat.le_of_ble_eq_true rfl) dX8_whistles_16 ⟨Nat.le_of_ble_eq_true rfl, Nat.le_of_ble_eq_true rfl⟩ ?_
  refine lv_istore (lv' := [(5, .int (mRa Z r mm)), (4, .int (mKn Z r 6)), (3, .int (mHe Z r 6)), (0, .ref (q 0)), (1, .int (nI r)), (2, .int (nI mm))]) hx hb dX8_whistles_19 hl (by decide) rfl (fun ls hl => ?_)
  refine lv_aload_n hx hb dX8_whistles_21 rfl (lv_at hl 3 rfl) ?_
  refine lv_iload_n hx hb dX8_whistles_22 rfl (lv_at hl 4 rfl) ?_
  refine lv_iload_n hx hb dX8_whistles_23 rfl (lv_at hl 5 rfl) ?_
  refine k_roV (As := [.int (nI r), .int (nI mm)]) (rest := []) (wc := oX8 T q Z g) (d := 2) (v := mCa Z r mm 3) cx (c_X8_catchers l G T A q Z g r mm (by omega) (by omega)) (cwV 2 hts gX8_whistles_X8_catchers rfl rfl rfl (by decide +kernel) ⟨Nat.le_of_ble_eq_true rfl, Nat.le_of_ble_eq_true rfl⟩) hP hK (hE.kept hS.2.1) (va_recv hK hP (ci := 8) (q0 := 0) rfl rfl) rfl hl.1 rfl (Nat.le_of_ble_eq_true rfl) dX8_whistles_24 ⟨Nat.le_of_ble_eq_true rfl, Nat.le_of_ble_eq_true rfl⟩ ?_
  refine lv_istore (lv' := [(6, .int (mCa Z r mm 3)), (5, .int (mRa Z r mm)), (4, .int (mKn Z r 6)), (3, .int (mHe Z r 6)), (0, .ref (q 0)), (1, .int (nI r)), (2, .int (nI mm))]) hx hb dX8_whistles_27 hl (by decide) rfl (fun ls hl => ?_)
  refine lv_aload_n hx hb dX8_whistles_29 rfl (lv_at hl 4 rfl) ?_
  refine va_get (D := G) (ci := 8) (v := .ref (q 2)) (C := RX8) (T := TX8) (N := 16) hx hb hts hinX8 hown hK hP 0 rfl rfl 1 (by decide) lk7 (fun _ h9 => h9) rfl dX8_whistles_30 ?_
  refine lv_bipush (v := nI 6) hx hb dX8_whistles_33 (by decide) ?_
  refine lv_iload_n hx hb dX8_whistles_35 rfl (lv_at hl 5 rfl) ?_
  refine n_iast hx hb hK hP hD hS 1 0 rfl rfl 6 (by decide) (by decide) dX8_whistles_36 (fun H locs hP hD hS => ?_)
  have hP : va_P G vwCl [(q 0, .inr (8, [.int (Z 0 0), .ref (q 2), .ref (q 3), .int (Z 0 3), .ref (q 5), .int (Z 0 5), .ref (q 7), .int (Z 0 7), .int (Z 0 8), .int (Z 0 9), .int (Z 0 10), .int (Z 0 11), .ref (q 13), .int (Z 0 13), .ref (q 15), .long g])), (q 2, .inl (T 0, 267, .inl (upd (Z 2) 6 (nI r)))), (q 3, .inl (T 0, 1602, .inl (Z 3))), (q 5, .inl (T 0, 267, .inl (Z 5))), (q 7, .inl (T 0, 60, .inl (Z 7))), (q 13, .inl (T 0, 8, .inl (Z 13))), (q 15, .inl (T 0, 3, .inl (Z 15)))] H := hP
  have hD : va_D A [(q 0, .inr (8, [.int (Z 0 0), .ref (q 2), .ref (q 3), .int (Z 0 3), .ref (q 5), .int (Z 0 5), .ref (q 7), .int (Z 0 7), .int (Z 0 8), .int (Z 0 9), .int (Z 0 10), .int (Z 0 11), .ref (q 13), .int (Z 0 13), .ref (q 15), .long g])), (q 2, .inl (T 0, 267, .inl (upd (Z 2) 6 (nI r)))), (q 3, .inl (T 0, 1602, .inl (Z 3))), (q 5, .inl (T 0, 267, .inl (Z 5))), (q 7, .inl (T 0, 60, .inl (Z 7))), (q 13, .inl (T 0, 8, .inl (Z 13))), (q 15, .inl (T 0, 3, .inl (Z 15)))] := hD
  refine lv_aload_n hx hb dX8_whistles_37 rfl (lv_at hl 4 rfl) ?_
  refine va_get (D := G) (ci := 8) (v := .ref (q 2)) (C := RX8) (T := TX8) (N := 16) hx hb hts hinX8 hown hK hP 0 rfl rfl 1 (by decide) lk7 (fun _ h9 => h9) rfl dX8_whistles_38 ?_
  refine lv_bipush (v := nI 7) hx hb dX8_whistles_41 (by decide) ?_
  refine lv_iload_n hx hb dX8_whistles_43 rfl (lv_at hl 6 rfl) ?_
  refine n_iast hx hb hK hP hD hS 1 0 rfl rfl 7 (by decide) (by decide) dX8_whistles_44 (fun H locs hP hD hS => ?_)
  have hP : va_P G vwCl [(q 0, .inr (8, [.int (Z 0 0), .ref (q 2), .ref (q 3), .int (Z 0 3), .ref (q 5), .int (Z 0 5), .ref (q 7), .int (Z 0 7), .int (Z 0 8), .int (Z 0 9), .int (Z 0 10), .int (Z 0 11), .ref (q 13), .int (Z 0 13), .ref (q 15), .long g])), (q 2, .inl (T 0, 267, .inl (upd (upd (Z 2) 6 (nI r)) 7 (nI mm)))), (q 3, .inl (T 0, 1602, .inl (Z 3))), (q 5, .inl (T 0, 267, .inl (Z 5))), (q 7, .inl (T 0, 60, .inl (Z 7))), (q 13, .inl (T 0, 8, .inl (Z 13))), (q 15, .inl (T 0, 3, .inl (Z 15)))] H := hP
  have hD : va_D A [(q 0, .inr (8, [.int (Z 0 0), .ref (q 2), .ref (q 3), .int (Z 0 3), .ref (q 5), .int (Z 0 5), .ref (q 7), .int (Z 0 7), .int (Z 0 8), .int (Z 0 9), .int (Z 0 10), .int (Z 0 11), .ref (q 13), .int (Z 0 13), .ref (q 15), .long g])), (q 2, .inl (T 0, 267, .inl (upd (upd (Z 2) 6 (nI r)) 7 (nI mm)))), (q 3, .inl (T 0, 1602, .inl (Z 3))), (q 5, .inl (T 0, 267, .inl (Z 5))), (q 7, .inl (T 0, 60, .inl (Z 7))), (q 13, .inl (T 0, 8, .inl (Z 13))), (q 15, .inl (T 0, 3, .inl (Z 15)))] := hD
  refine lv_aload_n hx hb dX8_whistles_45 rfl (lv_at hl 4 rfl) ?_
  refine va_get (D := G) (ci := 8) (v := .ref (q 2)) (C := RX8) (T := TX8) (N := 16) hx hb hts hinX8 hown hK hP 0 rfl rfl 1 (by decide) lk7 (fun _ h9 => h9) rfl dX8_whistles_46 ?_
  refine lv_bipush (v := nI 8) hx hb dX8_whistles_49 (by decide) ?_
  refine lv_aload_n hx hb dX8_whistles_51 rfl (lv_at hl 4 rfl) ?_
  refine lv_iload_n hx hb dX8_whistles_52 rfl (lv_at hl 5 rfl) ?_
  refine n_iconst hx hb 2 dX8_whistles_53 (by decide) ?_
  refine n_idiv (a := r) (b := 2) hx hb (by omega) (by decide) (by decide) dX8_whistles_54 ?_
  refine k_roV (As := [.int (nI (r / 2))]) (rest := [.int (nI 8), .ref (q 2)]) (wc := oX8 T q (sa Z 2 (upd (upd (Z 2) 6 (nI r)) 7 (nI mm))) g) (d := 1) (v := mF2 (sa Z 2 (upd (upd (Z 2) 6 (nI r)) 7 (nI mm))) (r / 2) 27) cx (c_X8_floorsFrom l G T A q (sa Z 2 (upd (upd (Z 2) 6 (nI r)) 7 (nI mm))) g (r / 2) (by omega)) (cwV 1 hts gX8_whistles_X8_floorsFrom rfl rfl rfl (by decide +kernel) ⟨Nat.le_of_ble_eq_true rfl, Nat.le_of_ble_eq_true rfl⟩) hP hK (hE.kept hS.2.1) (va_recv hK hP (ci := 8) (q0 := 0) rfl rfl) rfl hl.1 rfl (Nat.le_of_ble_eq_true rfl) dX8_whistles_55 ⟨Nat.le_of_ble_eq_true rfl, Nat.le_of_ble_eq_true rfl⟩ ?_
  refine n_top (y := mF2 Z (r / 2) 27) (mF2_e rfl rfl _ _) ?_
  refine n_iast hx hb hK hP hD hS 1 0 rfl rfl 8 (by decide) (by decide) dX8_whistles_58 (fun H locs hP hD hS => ?_)
  have hP : va_P G vwCl [(q 0, .inr (8, [.int (Z 0 0), .ref (q 2), .ref (q 3), .int (Z 0 3), .ref (q 5), .int (Z 0 5), .ref (q 7), .int (Z 0 7), .int (Z 0 8), .int (Z 0 9), .int (Z 0 10), .int (Z 0 11), .ref (q 13), .int (Z 0 13), .ref (q 15), .long g])), (q 2, .inl (T 0, 267, .inl (upd (upd (upd (Z 2) 6 (nI r)) 7 (nI mm)) 8 (mF2 Z (r / 2) 27)))), (q 3, .inl (T 0, 1602, .inl (Z 3))), (q 5, .inl (T 0, 267, .inl (Z 5))), (q 7, .inl (T 0, 60, .inl (Z 7))), (q 13, .inl (T 0, 8, .inl (Z 13))), (q 15, .inl (T 0, 3, .inl (Z 15)))] H := hP
  have hD : va_D A [(q 0, .inr (8, [.int (Z 0 0), .ref (q 2), .ref (q 3), .int (Z 0 3), .ref (q 5), .int (Z 0 5), .ref (q 7), .int (Z 0 7), .int (Z 0 8), .int (Z 0 9), .int (Z 0 10), .int (Z 0 11), .ref (q 13), .int (Z 0 13), .ref (q 15), .long g])), (q 2, .inl (T 0, 267, .inl (upd (upd (upd (Z 2) 6 (nI r)) 7 (nI mm)) 8 (mF2 Z (r / 2) 27)))), (q 3, .inl (T 0, 1602, .inl (Z 3))), (q 5, .inl (T 0, 267, .inl (Z 5))), (q 7, .inl (T 0, 60, .inl (Z 7))), (q 13, .inl (T 0, 8, .inl (Z 13))), (q 15, .inl (T 0, 3, .inl (Z 15)))] := hD
  refine lv_aload_n hx hb dX8_whistles_59 rfl (lv_at hl 4 rfl) ?_
  refine va_get (D := G) (ci := 8) (v := .ref (q 2)) (C := RX8) (T := TX8) (N := 16) hx hb hts hinX8 hown hK hP 0 rfl rfl 1 (by decide) lk7 (fun _ h9 => h9) rfl dX8_whistles_60 ?_
  refine lv_bipush (v := nI 9) hx hb dX8_whistles_63 (by decide) ?_
  refine lv_iload hx hb dX8_whistles_65 (lv_at hl 2 rfl) ?_
  refine n_iast hx hb hK hP hD hS 1 0 rfl rfl 9 (by decide) (by decide) dX8_whistles_67 (fun H locs hP hD hS => ?_)
  have hP : va_P G vwCl [(q 0, .inr (8, [.int (Z 0 0), .ref (q 2), .ref (q 3), .int (Z 0 3), .ref (q 5), .int (Z 0 5), .ref (q 7), .int (Z 0 7), .int (Z 0 8), .int (Z 0 9), .int (Z 0 10), .int (Z 0 11), .ref (q 13), .int (Z 0 13), .ref (q 15), .long g])), (q 2, .inl (T 0, 267, .inl (upd (upd (upd (upd (Z 2) 6 (nI r)) 7 (nI mm)) 8 (mF2 Z (r / 2) 27)) 9 (mKn Z r 6)))), (q 3, .inl (T 0, 1602, .inl (Z 3))), (q 5, .inl (T 0, 267, .inl (Z 5))), (q 7, .inl (T 0, 60, .inl (Z 7))), (q 13, .inl (T 0, 8, .inl (Z 13))), (q 15, .inl (T 0, 3, .inl (Z 15)))] H := hP
  have hD : va_D A [(q 0, .inr (8, [.int (Z 0 0), .ref (q 2), .ref (q 3), .int (Z 0 3), .ref (q 5), .int (Z 0 5), .ref (q 7), .int (Z 0 7), .int (Z 0 8), .int (Z 0 9), .int (Z 0 10), .int (Z 0 11), .ref (q 13), .int (Z 0 13), .ref (q 15), .long g])), (q 2, .inl (T 0, 267, .inl (upd (upd (upd (upd (Z 2) 6 (nI r)) 7 (nI mm)) 8 (mF2 Z (r / 2) 27)) 9 (mKn Z r 6)))), (q 3, .inl (T 0, 1602, .inl (Z 3))), (q 5, .inl (T 0, 267, .inl (Z 5))), (q 7, .inl (T 0, 60, .inl (Z 7))), (q 13, .inl (T 0, 8, .inl (Z 13))), (q 15, .inl (T 0, 3, .inl (Z 15)))] := hD
  refine lv_aload_n hx hb dX8_whistles_68 rfl (lv_at hl 4 rfl) ?_
  refine va_get (D := G) (ci := 8) (v := .ref (q 2)) (C := RX8) (T := TX8) (N := 16) hx hb hts hinX8 hown hK hP 0 rfl rfl 1 (by decide) lk7 (fun _ h9 => h9) rfl dX8_whistles_69 ?_
  refine lv_bipush (v := nI 10) hx hb dX8_whistles_72 (by decide) ?_
  refine lv_iload hx hb dX8_whistles_74 (lv_at hl 0 rfl) ?_
  refine n_iast hx hb hK hP hD hS 1 0 rfl rfl 10 (by decide) (by decide) dX8_whistles_76 (fun H locs hP hD hS => ?_)
  have hP : va_P G vwCl [(q 0, .inr (8, [.int (Z 0 0), .ref (q 2), .ref (q 3), .int (Z 0 3), .ref (q 5), .int (Z 0 5), .ref (q 7), .int (Z 0 7), .int (Z 0 8), .int (Z 0 9), .int (Z 0 10), .int (Z 0 11), .ref (q 13), .int (Z 0 13), .ref (q 15), .long g])), (q 2, .inl (T 0, 267, .inl (upd (upd (upd (upd (upd (Z 2) 6 (nI r)) 7 (nI mm)) 8 (mF2 Z (r / 2) 27)) 9 (mKn Z r 6)) 10 (mCa Z r mm 3)))), (q 3, .inl (T 0, 1602, .inl (Z 3))), (q 5, .inl (T 0, 267, .inl (Z 5))), (q 7, .inl (T 0, 60, .inl (Z 7))), (q 13, .inl (T 0, 8, .inl (Z 13))), (q 15, .inl (T 0, 3, .inl (Z 15)))] H := hP
  have hD : va_D A [(q 0, .inr (8, [.int (Z 0 0), .ref (q 2), .ref (q 3), .int (Z 0 3), .ref (q 5), .int (Z 0 5), .ref (q 7), .int (Z 0 7), .int (Z 0 8), .int (Z 0 9), .int (Z 0 10), .int (Z 0 11), .ref (q 13), .int (Z 0 13), .ref (q 15), .long g])), (q 2, .inl (T 0, 267, .inl (upd (upd (upd (upd (upd (Z 2) 6 (nI r)) 7 (nI mm)) 8 (mF2 Z (r / 2) 27)) 9 (mKn Z r 6)) 10 (mCa Z r mm 3)))), (q 3, .inl (T 0, 1602, .inl (Z 3))), (q 5, .inl (T 0, 267, .inl (Z 5))), (q 7, .inl (T 0, 60, .inl (Z 7))), (q 13, .inl (T 0, 8, .inl (Z 13))), (q 15, .inl (T 0, 3, .inl (Z 15)))] := hD
  refine lv_aload_n hx hb dX8_whistles_77 rfl (lv_at hl 4 rfl) ?_
  refine va_get (D := G) (ci := 8) (v := .ref (q 2)) (C := RX8) (T := TX8) (N := 16) hx hb hts hinX8 hown hK hP 0 rfl rfl 1 (by decide) lk7 (fun _ h9 => h9) rfl dX8_whistles_78 ?_
  refine lv_bipush (v := nI 11) hx hb dX8_whistles_81 (by decide) ?_
  refine lv_iload hx hb dX8_whistles_83 (lv_at hl 1 rfl) ?_
  refine n_iast hx hb hK hP hD hS 1 0 rfl rfl 11 (by decide) (by decide) dX8_whistles_85 (fun H locs hP hD hS => ?_)
  have hP : va_P G vwCl [(q 0, .inr (8, [.int (Z 0 0), .ref (q 2), .ref (q 3), .int (Z 0 3), .ref (q 5), .int (Z 0 5), .ref (q 7), .int (Z 0 7), .int (Z 0 8), .int (Z 0 9), .int (Z 0 10), .int (Z 0 11), .ref (q 13), .int (Z 0 13), .ref (q 15), .long g])), (q 2, .inl (T 0, 267, .inl (upd (upd (upd (upd (upd (upd (Z 2) 6 (nI r)) 7 (nI mm)) 8 (mF2 Z (r / 2) 27)) 9 (mKn Z r 6)) 10 (mCa Z r mm 3)) 11 (mRa Z r mm)))), (q 3, .inl (T 0, 1602, .inl (Z 3))), (q 5, .inl (T 0, 267, .inl (Z 5))), (q 7, .inl (T 0, 60, .inl (Z 7))), (q 13, .inl (T 0, 8, .inl (Z 13))), (q 15, .inl (T 0, 3, .inl (Z 15)))] H := hP
  have hD : va_D A [(q 0, .inr (8, [.int (Z 0 0), .ref (q 2), .ref (q 3), .int (Z 0 3), .ref (q 5), .int (Z 0 5), .ref (q 7), .int (Z 0 7), .int (Z 0 8), .int (Z 0 9), .int (Z 0 10), .int (Z 0 11), .ref (q 13), .int (Z 0 13), .ref (q 15), .long g])), (q 2, .inl (T 0, 267, .inl (upd (upd (upd (upd (upd (upd (Z 2) 6 (nI r)) 7 (nI mm)) 8 (mF2 Z (r / 2) 27)) 9 (mKn Z r 6)) 10 (mCa Z r mm 3)) 11 (mRa Z r mm)))), (q 3, .inl (T 0, 1602, .inl (Z 3))), (q 5, .inl (T 0, 267, .inl (Z 5))), (q 7, .inl (T 0, 60, .inl (Z 7))), (q 13, .inl (T 0, 8, .inl (Z 13))), (q 15, .inl (T 0, 3, .inl (Z 15)))] := hD
  refine n_iconst hx hb 0 dX8_whistles_86 (by decide) ?_
  refine lv_istore (lv' := [(7, .int (nI 0)), (6, .int (mCa Z r mm 3)), (5, .int (mRa Z r mm)), (4, .int (mKn Z r 6)), (3, .int (mHe Z r 6)), (0, .ref (q 0)), (1, .int (nI r)), (2, .int (nI mm))]) hx hb dX8_whistles_87 hl (by decide) rfl (fun ls hl => ?_)
  have L89 : ∀ (n9 k : Nat) (hk1 : k ≤ 6) (hk2 : 6 - k < n9) (x7 : Int32) (F_1 : Nat → Int32) (hx7 : x7 = nI k) (hF_1 : F_1 = mWhL Z r mm k) (H : Heap) (locs : List Loc) (hP : va_P G vwCl [(q 0, .inr (8, [.int (Z 0 0), .ref (q 2), .ref (q 3), .int (Z 0 3), .ref (q 5), .int (Z 0 5), .ref (q 7), .int (Z 0 7), .int (Z 0 8), .int (Z 0 9), .int (Z 0 10), .int (Z 0 11), .ref (q 13), .int (Z 0 13), .ref (q 15), .long g])), (q 2, .inl (T 0, 267, .inl F_1)), (q 3, .inl (T 0, 1602, .inl (Z 3))), (q 5, .inl (T 0, 267, .inl (Z 5))), (q 7, .inl (T 0, 60, .inl (Z 7))), (q 13, .inl (T 0, 8, .inl (Z 13))), (q 15, .inl (T 0, 3, .inl (Z 15)))] H) (hD : va_D A [(q 0, .inr (8, [.int (Z 0 0), .ref (q 2), .ref (q 3), .int (Z 0 3), .ref (q 5), .int (Z 0 5), .ref (q 7), .int (Z 0 7), .int (Z 0 8), .int (Z 0 9), .int (Z 0 10), .int (Z 0 11), .ref (q 13), .int (Z 0 13), .ref (q 15), .long g])), (q 2, .inl (T 0, 267, .inl F_1)), (q 3, .inl (T 0, 1602, .inl (Z 3))), (q 5, .inl (T 0, 267, .inl (Z 5))), (q 7, .inl (T 0, 60, .inl (Z 7))), (q 13, .inl (T 0, 8, .inl (Z 13))), (q 15, .inl (T 0, 3, .inl (Z 15)))]) (hS : va_S A s.heap H locs) (ls : Array Slot) (hl : lv_has ls 10 [(7, .int x7), (6, .int (mCa Z r mm 3)), (5, .int (mRa Z r mm)), (4, .int (mKn Z r 6)), (3, .int (mHe Z r 6)), (0, .ref (q 0)), (1, .int (nI r)), (2, .int (nI mm))]), W p l e (headSpec wsX8_whistles (rmD 5 0 0)).room s m args below meth c H locs 0 0 Q0 (F0 m 89 ls []) := by
    intro n9
    induction n9 with
    | zero => intros; omega
    | succ n9 ih89 =>
      intro k hk1 hk2 x7 F_1 hx7 hF_1 H locs hP hD hS ls hl
      subst hx7 hF_1
      refine lv_iload hx hb dX8_whistles_89 (lv_at hl 0 rfl) ?_
      refine lv_bipush (v := nI 6) hx hb dX8_whistles_91 (by decide) ?_
      refine n_icmp_ge (a := k) (b := 6) (tgt := 200) hx hb (by omega) (by decide) dX8_whistles_93 (by decide) (fun c_2 => ?_) (fun c_3 => ?_)
      · skip
        refine lv_aload_n hx hb dX8_whistles_200 rfl (lv_at hl 5 rfl) ?_
        refine lv_iload_n hx hb dX8_whistles_201 rfl (lv_at hl 6 rfl) ?_
        refine n_iconst hx hb 1 dX8_whistles_202 (by decide) ?_
        refine lv_iload hx hb dX8_whistles_203 (lv_at hl 1 rfl) ?_
        refine k_roS (As := [.int (mCa Z r mm 3)]) (rest := [.int (nI 1), .int (nI r), .ref (q 0)]) (wc := []) (d := 0) (v := mOn (mCa Z r mm 3) 6) cx (c_X8_ones l G T A (mCa Z r mm 3) ) (va_cwS 1 hts gX8_whistles_X8_ones rfl rfl rfl (by decide +kernel) ⟨Nat.le_of_ble_eq_true rfl, Nat.le_of_ble_eq_true rfl⟩) (hP.sub (ws' := []) [] rfl) hK (hE.kept hS.2.1) rfl hl.1 rfl (Nat.le_of_ble_eq_true rfl) dX8_whistles_205 ⟨Nat.le_of_ble_eq_true rfl, Nat.le_of_ble_eq_true rfl⟩ ?_
        refine k_rvV (As := [.int (nI r), .int (nI 1), .int (mOn (mCa Z r mm 3) 6)]) (rest := []) (wc := oX8 T q (sa Z 2 (mWhL Z r mm k)) g) (wr := []) (w1 := oX8 T q (sa (sa Z 2 (mWhL Z r mm k)) 2 (upd ((sa Z 2 (mWhL Z r mm k)) 2) (14 + 5 * r + 1) ((((sa Z 2 (mWhL Z r mm k)) 2) (14 + 5 * r + 1)) + (mOn (mCa Z r mm 3) 6)))) g) (d := 0) (mc := 0) (ms := 0) (isC := [0, 1, 2, 3, 4, 5, 6]) (isR := []) cx (c_X8_addTo l G T H.size q (sa Z 2 (mWhL Z r mm k)) g r 1 (mOn (mCa Z r mm 3) 6) (by omega) (by omega)) (cwV 3 hts gX8_whistles_X8_addTo rfl rfl rfl (by decide +kernel) ⟨Nat.le_of_ble_eq_true rfl, Nat.le_of_ble_eq_true rfl⟩) ⟨hP, hD, hS, hA, hE, hK, rfl, rfl, rfl, rfl, by decide⟩ (va_recv hK hP (ci := 8) (q0 := 0) rfl rfl) rfl hl.1 rfl (Nat.le_of_ble_eq_true rfl) dX8_whistles_208 ⟨Nat.le_of_ble_eq_true rfl, Nat.le_of_ble_eq_true rfl⟩ (fun H locs hP hD hS hz => ?_)
        have hP : va_P G vwCl [(q 0, .inr (8, [.int (Z 0 0), .ref (q 2), .ref (q 3), .int (Z 0 3), .ref (q 5), .int (Z 0 5), .ref (q 7), .int (Z 0 7), .int (Z 0 8), .int (Z 0 9), .int (Z 0 10), .int (Z 0 11), .ref (q 13), .int (Z 0 13), .ref (q 15), .long g])), (q 2, .inl (T 0, 267, .inl (upd ((mWhL Z r mm k)) (14 + 5 * r + 1) ((((mWhL Z r mm k)) (14 + 5 * r + 1)) + (mOn (mCa Z r mm 3) 6))))), (q 3, .inl (T 0, 1602, .inl (Z 3))), (q 5, .inl (T 0, 267, .inl (Z 5))), (q 7, .inl (T 0, 60, .inl (Z 7))), (q 13, .inl (T 0, 8, .inl (Z 13))), (q 15, .inl (T 0, 3, .inl (Z 15)))] H := hP
        have hD : va_D A [(q 0, .inr (8, [.int (Z 0 0), .ref (q 2), .ref (q 3), .int (Z 0 3), .ref (q 5), .int (Z 0 5), .ref (q 7), .int (Z 0 7), .int (Z 0 8), .int (Z 0 9), .int (Z 0 10), .int (Z 0 11), .ref (q 13), .int (Z 0 13), .ref (q 15), .long g])), (q 2, .inl (T 0, 267, .inl (upd ((mWhL Z r mm k)) (14 + 5 * r + 1) ((((mWhL Z r mm k)) (14 + 5 * r + 1)) + (mOn (mCa Z r mm 3) 6))))), (q 3, .inl (T 0, 1602, .inl (Z 3))), (q 5, .inl (T 0, 267, .inl (Z 5))), (q 7, .inl (T 0, 60, .inl (Z 7))), (q 13, .inl (T 0, 8, .inl (Z 13))), (q 15, .inl (T 0, 3, .inl (Z 15)))] := hD
        refine lv_aload_n hx hb dX8_whistles_211 rfl (lv_at hl 5 rfl) ?_
        refine lv_iload_n hx hb dX8_whistles_212 rfl (lv_at hl 7 rfl) ?_
        refine n_iconst hx hb 1 dX8_whistles_213 (by decide) ?_
        refine lv_aload_n hx hb dX8_whistles_214 rfl (lv_at hl 5 rfl) ?_
        refine lv_iload_n hx hb dX8_whistles_215 rfl (lv_at hl 7 rfl) ?_
        refine n_iconst hx hb 1 dX8_whistles_216 (by decide) ?_
        refine k_roV (As := [.int (nI mm), .int (nI 1)]) (rest := [.int (nI 1), .int (nI mm), .ref (q 0)]) (wc := oX8 T q (sa Z 2 (upd ((mWhL Z r mm k)) (14 + 5 * r + 1) ((((mWhL Z r mm k)) (14 + 5 * r + 1)) + (mOn (mCa Z r mm 3) 6)))) g) (d := 0) (v := (upd ((mWhL Z r mm k)) (14 + 5 * r + 1) ((((mWhL Z r mm k)) (14 + 5 * r + 1)) + (mOn (mCa Z r mm 3) 6))) (47 + 11 * mm + 1)) cx (c_X8_ofMessage l G T A q (sa Z 2 (upd ((mWhL Z r mm k)) (14 + 5 * r + 1) ((((mWhL Z r mm k)) (14 + 5 * r + 1)) + (mOn (mCa Z r mm 3) 6)))) g mm 1 (by omega) (by omega)) (cwV 2 hts gX8_whistles_X8_ofMessage rfl rfl rfl (by decide +kernel) ⟨Nat.le_of_ble_eq_true rfl, Nat.le_of_ble_eq_true rfl⟩) hP hK (hE.kept hS.2.1) (va_recv hK hP (ci := 8) (q0 := 0) rfl rfl) rfl hl.1 rfl (Nat.le_of_ble_eq_true rfl) dX8_whistles_217 ⟨Nat.le_of_ble_eq_true rfl, Nat.le_of_ble_eq_true rfl⟩ ?_
        refine n_iconst hx hb 1 dX8_whistles_220 (by decide) ?_
        refine lv_iadd hx hb dX8_whistles_221 ?_
        refine k_rvV (As := [.int (nI mm), .int (nI 1), .int (((upd ((mWhL Z r mm k)) (14 + 5 * r + 1) ((((mWhL Z r mm k)) (14 + 5 * r + 1)) + (mOn (mCa Z r mm 3) 6))) (47 + 11 * mm + 1)) + (nI 1))]) (rest := []) (wc := oX8 T q (sa Z 2 (upd ((mWhL Z r mm k)) (14 + 5 * r + 1) ((((mWhL Z r mm k)) (14 + 5 * r + 1)) + (mOn (mCa Z r mm 3) 6)))) g) (wr := []) (w1 := oX8 T q (sa (sa Z 2 (upd ((mWhL Z r mm k)) (14 + 5 * r + 1) ((((mWhL Z r mm k)) (14 + 5 * r + 1)) + (mOn (mCa Z r mm 3) 6)))) 2 (upd ((sa Z 2 (upd ((mWhL Z r mm k)) (14 + 5 * r + 1) ((((mWhL Z r mm k)) (14 + 5 * r + 1)) + (mOn (mCa Z r mm 3) 6)))) 2) (47 + 11 * mm + 1) (((upd ((mWhL Z r mm k)) (14 + 5 * r + 1) ((((mWhL Z r mm k)) (14 + 5 * r + 1)) + (mOn (mCa Z r mm 3) 6))) (47 + 11 * mm + 1)) + (nI 1)))) g) (d := 0) (mc := 0) (ms := 0) (isC := [0, 1, 2, 3, 4, 5, 6]) (isR := []) cx (c_X8_setMessage l G T H.size q (sa Z 2 (upd ((mWhL Z r mm k)) (14 + 5 * r + 1) ((((mWhL Z r mm k)) (14 + 5 * r + 1)) + (mOn (mCa Z r mm 3) 6)))) g mm 1 (((upd ((mWhL Z r mm k)) (14 + 5 * r + 1) ((((mWhL Z r mm k)) (14 + 5 * r + 1)) + (mOn (mCa Z r mm 3) 6))) (47 + 11 * mm + 1)) + (nI 1)) (by omega) (by omega)) (cwV 3 hts gX8_whistles_X8_setMessage rfl rfl rfl (by decide +kernel) ⟨Nat.le_of_ble_eq_true rfl, Nat.le_of_ble_eq_true rfl⟩) ⟨hP, hD, hS, hA, hE, hK, rfl, rfl, rfl, rfl, by decide⟩ (va_recv hK hP (ci := 8) (q0 := 0) rfl rfl) rfl hl.1 rfl (Nat.le_of_ble_eq_true rfl) dX8_whistles_222 ⟨Nat.le_of_ble_eq_true rfl, Nat.le_of_ble_eq_true rfl⟩ (fun H locs hP hD hS hz => ?_)
        have hP : va_P G vwCl [(q 0, .inr (8, [.int (Z 0 0), .ref (q 2), .ref (q 3), .int (Z 0 3), .ref (q 5), .int (Z 0 5), .ref (q 7), .int (Z 0 7), .int (Z 0 8), .int (Z 0 9), .int (Z 0 10), .int (Z 0 11), .ref (q 13), .int (Z 0 13), .ref (q 15), .long g])), (q 2, .inl (T 0, 267, .inl (upd ((upd ((mWhL Z r mm k)) (14 + 5 * r + 1) ((((mWhL Z r mm k)) (14 + 5 * r + 1)) + (mOn (mCa Z r mm 3) 6)))) (47 + 11 * mm + 1) (((upd ((mWhL Z r mm k)) (14 + 5 * r + 1) ((((mWhL Z r mm k)) (14 + 5 * r + 1)) + (mOn (mCa Z r mm 3) 6))) (47 + 11 * mm + 1)) + (nI 1))))), (q 3, .inl (T 0, 1602, .inl (Z 3))), (q 5, .inl (T 0, 267, .inl (Z 5))), (q 7, .inl (T 0, 60, .inl (Z 7))), (q 13, .inl (T 0, 8, .inl (Z 13))), (q 15, .inl (T 0, 3, .inl (Z 15)))] H := hP
        have hD : va_D A [(q 0, .inr (8, [.int (Z 0 0), .ref (q 2), .ref (q 3), .int (Z 0 3), .ref (q 5), .int (Z 0 5), .ref (q 7), .int (Z 0 7), .int (Z 0 8), .int (Z 0 9), .int (Z 0 10), .int (Z 0 11), .ref (q 13), .int (Z 0 13), .ref (q 15), .long g])), (q 2, .inl (T 0, 267, .inl (upd ((upd ((mWhL Z r mm k)) (14 + 5 * r + 1) ((((mWhL Z r mm k)) (14 + 5 * r + 1)) + (mOn (mCa Z r mm 3) 6)))) (47 + 11 * mm + 1) (((upd ((mWhL Z r mm k)) (14 + 5 * r + 1) ((((mWhL Z r mm k)) (14 + 5 * r + 1)) + (mOn (mCa Z r mm 3) 6))) (47 + 11 * mm + 1)) + (nI 1))))), (q 3, .inl (T 0, 1602, .inl (Z 3))), (q 5, .inl (T 0, 267, .inl (Z 5))), (q 7, .inl (T 0, 60, .inl (Z 7))), (q 13, .inl (T 0, 8, .inl (Z 13))), (q 15, .inl (T 0, 3, .inl (Z 15)))] := hD
        refine lv_aload_n hx hb dX8_whistles_225 rfl (lv_at hl 5 rfl) ?_
        refine lv_iload_n hx hb dX8_whistles_226 rfl (lv_at hl 7 rfl) ?_
        refine n_iconst hx hb 2 dX8_whistles_227 (by decide) ?_
        refine lv_aload_n hx hb dX8_whistles_228 rfl (lv_at hl 5 rfl) ?_
        refine lv_iload_n hx hb dX8_whistles_229 rfl (lv_at hl 7 rfl) ?_
        refine n_iconst hx hb 2 dX8_whistles_230 (by decide) ?_
        refine k_roV (As := [.int (nI mm), .int (nI 2)]) (rest := [.int (nI 2), .int (nI mm), .ref (q 0)]) (wc := oX8 T q (sa Z 2 (upd ((upd ((mWhL Z r mm k)) (14 + 5 * r + 1) ((((mWhL Z r mm k)) (14 + 5 * r + 1)) + (mOn (mCa Z r mm 3) 6)))) (47 + 11 * mm + 1) (((upd ((mWhL Z r mm k)) (14 + 5 * r + 1) ((((mWhL Z r mm k)) (14 + 5 * r + 1)) + (mOn (mCa Z r mm 3) 6))) (47 + 11 * mm + 1)) + (nI 1)))) g) (d := 0) (v := (upd ((upd ((mWhL Z r mm k)) (14 + 5 * r + 1) ((((mWhL Z r mm k)) (14 + 5 * r + 1)) + (mOn (mCa Z r mm 3) 6)))) (47 + 11 * mm + 1) (((upd ((mWhL Z r mm k)) (14 + 5 * r + 1) ((((mWhL Z r mm k)) (14 + 5 * r + 1)) + (mOn (mCa Z r mm 3) 6))) (47 + 11 * mm + 1)) + (nI 1))) (47 + 11 * mm + 2)) cx (c_X8_ofMessage l G T A q (sa Z 2 (upd ((upd ((mWhL Z r mm k)) (14 + 5 * r + 1) ((((mWhL Z r mm k)) (14 + 5 * r + 1)) + (mOn (mCa Z r mm 3) 6)))) (47 + 11 * mm + 1) (((upd ((mWhL Z r mm k)) (14 + 5 * r + 1) ((((mWhL Z r mm k)) (14 + 5 * r + 1)) + (mOn (mCa Z r mm 3) 6))) (47 + 11 * mm + 1)) + (nI 1)))) g mm 2 (by omega) (by omega)) (cwV 2 hts gX8_whistles_X8_ofMessage rfl rfl rfl (by decide +kernel) ⟨Nat.le_of_ble_eq_true rfl, Nat.le_of_ble_eq_true rfl⟩) hP hK (hE.kept hS.2.1) (va_recv hK hP (ci := 8) (q0 := 0) rfl rfl) rfl hl.1 rfl (Nat.le_of_ble_eq_true rfl) dX8_whistles_231 ⟨Nat.le_of_ble_eq_true rfl, Nat.le_of_ble_eq_true rfl⟩ ?_
        refine lv_iload hx hb dX8_whistles_234 (lv_at hl 3 rfl) ?_
        refine k_roS (As := [.int (mKn Z r 6)]) (rest := [.int ((upd ((upd ((mWhL Z r mm k)) (14 + 5 * r + 1) ((((mWhL Z r mm k)) (14 + 5 * r + 1)) + (mOn (mCa Z r mm 3) 6)))) (47 + 11 * mm + 1) (((upd ((mWhL Z r mm k)) (14 + 5 * r + 1) ((((mWhL Z r mm k)) (14 + 5 * r + 1)) + (mOn (mCa Z r mm 3) 6))) (47 + 11 * mm + 1)) + (nI 1))) (47 + 11 * mm + 2)), .int (nI 2), .int (nI mm), .ref (q 0)]) (wc := []) (d := 0) (v := mOn (mKn Z r 6) 6) cx (c_X8_ones l G T A (mKn Z r 6) ) (va_cwS 1 hts gX8_whistles_X8_ones rfl rfl rfl (by decide +kernel) ⟨Nat.le_of_ble_eq_true rfl, Nat.le_of_ble_eq_true rfl⟩) (hP.sub (ws' := []) [] rfl) hK (hE.kept hS.2.1) rfl hl.1 rfl (Nat.le_of_ble_eq_true rfl) dX8_whistles_236 ⟨Nat.le_of_ble_eq_true rfl, Nat.le_of_ble_eq_true rfl⟩ ?_
        refine lv_iadd hx hb dX8_whistles_239 ?_
        refine k_rvV (As := [.int (nI mm), .int (nI 2), .int (((upd ((upd ((mWhL Z r mm k)) (14 + 5 * r + 1) ((((mWhL Z r mm k)) (14 + 5 * r + 1)) + (mOn (mCa Z r mm 3) 6)))) (47 + 11 * mm + 1) (((upd ((mWhL Z r mm k)) (14 + 5 * r + 1) ((((mWhL Z r mm k)) (14 + 5 * r + 1)) + (mOn (mCa Z r mm 3) 6))) (47 + 11 * mm + 1)) + (nI 1))) (47 + 11 * mm + 2)) + (mOn (mKn Z r 6) 6))]) (rest := []) (wc := oX8 T q (sa Z 2 (upd ((upd ((mWhL Z r mm k)) (14 + 5 * r + 1) ((((mWhL Z r mm k)) (14 + 5 * r + 1)) + (mOn (mCa Z r mm 3) 6)))) (47 + 11 * mm + 1) (((upd ((mWhL Z r mm k)) (14 + 5 * r + 1) ((((mWhL Z r mm k)) (14 + 5 * r + 1)) + (mOn (mCa Z r mm 3) 6))) (47 + 11 * mm + 1)) + (nI 1)))) g) (wr := []) (w1 := oX8 T q (sa (sa Z 2 (upd ((upd ((mWhL Z r mm k)) (14 + 5 * r + 1) ((((mWhL Z r mm k)) (14 + 5 * r + 1)) + (mOn (mCa Z r mm 3) 6)))) (47 + 11 * mm + 1) (((upd ((mWhL Z r mm k)) (14 + 5 * r + 1) ((((mWhL Z r mm k)) (14 + 5 * r + 1)) + (mOn (mCa Z r mm 3) 6))) (47 + 11 * mm + 1)) + (nI 1)))) 2 (upd ((sa Z 2 (upd ((upd ((mWhL Z r mm k)) (14 + 5 * r + 1) ((((mWhL Z r mm k)) (14 + 5 * r + 1)) + (mOn (mCa Z r mm 3) 6)))) (47 + 11 * mm + 1) (((upd ((mWhL Z r mm k)) (14 + 5 * r + 1) ((((mWhL Z r mm k)) (14 + 5 * r + 1)) + (mOn (mCa Z r mm 3) 6))) (47 + 11 * mm + 1)) + (nI 1)))) 2) (47 + 11 * mm + 2) (((upd ((upd ((mWhL Z r mm k)) (14 + 5 * r + 1) ((((mWhL Z r mm k)) (14 + 5 * r + 1)) + (mOn (mCa Z r mm 3) 6)))) (47 + 11 * mm + 1) (((upd ((mWhL Z r mm k)) (14 + 5 * r + 1) ((((mWhL Z r mm k)) (14 + 5 * r + 1)) + (mOn (mCa Z r mm 3) 6))) (47 + 11 * mm + 1)) + (nI 1))) (47 + 11 * mm + 2)) + (mOn (mKn Z r 6) 6)))) g) (d := 0) (mc := 0) (ms := 0) (isC := [0, 1, 2, 3, 4, 5, 6]) (isR := []) cx (c_X8_setMessage l G T H.size q (sa Z 2 (upd ((upd ((mWhL Z r mm k)) (14 + 5 * r + 1) ((((mWhL Z r mm k)) (14 + 5 * r + 1)) + (mOn (mCa Z r mm 3) 6)))) (47 + 11 * mm + 1) (((upd ((mWhL Z r mm k)) (14 + 5 * r + 1) ((((mWhL Z r mm k)) (14 + 5 * r + 1)) + (mOn (mCa Z r mm 3) 6))) (47 + 11 * mm + 1)) + (nI 1)))) g mm 2 (((upd ((upd ((mWhL Z r mm k)) (14 + 5 * r + 1) ((((mWhL Z r mm k)) (14 + 5 * r + 1)) + (mOn (mCa Z r mm 3) 6)))) (47 + 11 * mm + 1) (((upd ((mWhL Z r mm k)) (14 + 5 * r + 1) ((((mWhL Z r mm k)) (14 + 5 * r + 1)) + (mOn (mCa Z r mm 3) 6))) (47 + 11 * mm + 1)) + (nI 1))) (47 + 11 * mm + 2)) + (mOn (mKn Z r 6) 6)) (by omega) (by omega)) (cwV 3 hts gX8_whistles_X8_setMessage rfl rfl rfl (by decide +kernel) ⟨Nat.le_of_ble_eq_true rfl, Nat.le_of_ble_eq_true rfl⟩) ⟨hP, hD, hS, hA, hE, hK, rfl, rfl, rfl, rfl, by decide⟩ (va_recv hK hP (ci := 8) (q0 := 0) rfl rfl) rfl hl.1 rfl (Nat.le_of_ble_eq_true rfl) dX8_whistles_240 ⟨Nat.le_of_ble_eq_true rfl, Nat.le_of_ble_eq_true rfl⟩ (fun H locs hP hD hS hz => ?_)
        have hP : va_P G vwCl [(q 0, .inr (8, [.int (Z 0 0), .ref (q 2), .ref (q 3), .int (Z 0 3), .ref (q 5), .int (Z 0 5), .ref (q 7), .int (Z 0 7), .int (Z 0 8), .int (Z 0 9), .int (Z 0 10), .int (Z 0 11), .ref (q 13), .int (Z 0 13), .ref (q 15), .long g])), (q 2, .inl (T 0, 267, .inl (upd ((upd ((upd ((mWhL Z r mm k)) (14 + 5 * r + 1) ((((mWhL Z r mm k)) (14 + 5 * r + 1)) + (mOn (mCa Z r mm 3) 6)))) (47 + 11 * mm + 1) (((upd ((mWhL Z r mm k)) (14 + 5 * r + 1) ((((mWhL Z r mm k)) (14 + 5 * r + 1)) + (mOn (mCa Z r mm 3) 6))) (47 + 11 * mm + 1)) + (nI 1)))) (47 + 11 * mm + 2) (((upd ((upd ((mWhL Z r mm k)) (14 + 5 * r + 1) ((((mWhL Z r mm k)) (14 + 5 * r + 1)) + (mOn (mCa Z r mm 3) 6)))) (47 + 11 * mm + 1) (((upd ((mWhL Z r mm k)) (14 + 5 * r + 1) ((((mWhL Z r mm k)) (14 + 5 * r + 1)) + (mOn (mCa Z r mm 3) 6))) (47 + 11 * mm + 1)) + (nI 1))) (47 + 11 * mm + 2)) + (mOn (mKn Z r 6) 6))))), (q 3, .inl (T 0, 1602, .inl (Z 3))), (q 5, .inl (T 0, 267, .inl (Z 5))), (q 7, .inl (T 0, 60, .inl (Z 7))), (q 13, .inl (T 0, 8, .inl (Z 13))), (q 15, .inl (T 0, 3, .inl (Z 15)))] H := hP
        have hD : va_D A [(q 0, .inr (8, [.int (Z 0 0), .ref (q 2), .ref (q 3), .int (Z 0 3), .ref (q 5), .int (Z 0 5), .ref (q 7), .int (Z 0 7), .int (Z 0 8), .int (Z 0 9), .int (Z 0 10), .int (Z 0 11), .ref (q 13), .int (Z 0 13), .ref (q 15), .long g])), (q 2, .inl (T 0, 267, .inl (upd ((upd ((upd ((mWhL Z r mm k)) (14 + 5 * r + 1) ((((mWhL Z r mm k)) (14 + 5 * r + 1)) + (mOn (mCa Z r mm 3) 6)))) (47 + 11 * mm + 1) (((upd ((mWhL Z r mm k)) (14 + 5 * r + 1) ((((mWhL Z r mm k)) (14 + 5 * r + 1)) + (mOn (mCa Z r mm 3) 6))) (47 + 11 * mm + 1)) + (nI 1)))) (47 + 11 * mm + 2) (((upd ((upd ((mWhL Z r mm k)) (14 + 5 * r + 1) ((((mWhL Z r mm k)) (14 + 5 * r + 1)) + (mOn (mCa Z r mm 3) 6)))) (47 + 11 * mm + 1) (((upd ((mWhL Z r mm k)) (14 + 5 * r + 1) ((((mWhL Z r mm k)) (14 + 5 * r + 1)) + (mOn (mCa Z r mm 3) 6))) (47 + 11 * mm + 1)) + (nI 1))) (47 + 11 * mm + 2)) + (mOn (mKn Z r 6) 6))))), (q 3, .inl (T 0, 1602, .inl (Z 3))), (q 5, .inl (T 0, 267, .inl (Z 5))), (q 7, .inl (T 0, 60, .inl (Z 7))), (q 13, .inl (T 0, 8, .inl (Z 13))), (q 15, .inl (T 0, 3, .inl (Z 15)))] := hD
        refine lv_aload_n hx hb dX8_whistles_243 rfl (lv_at hl 5 rfl) ?_
        refine va_get (D := G) (ci := 8) (v := .ref (q 2)) (C := RX8) (T := TX8) (N := 16) hx hb hts hinX8 hown hK hP 0 rfl rfl 1 (by decide) lk7 (fun _ h9 => h9) rfl dX8_whistles_244 ?_
        refine n_iconst hx hb 5 dX8_whistles_247 (by decide) ?_
        refine lv_dup2_11 hx hb dX8_whistles_248 rfl rfl ?_
        refine n_iald hx hb hK hP 1 0 rfl rfl 5 (by decide) (by decide) dX8_whistles_249 ?_
        refine n_iconst hx hb 1 dX8_whistles_250 (by decide) ?_
        refine lv_iadd hx hb dX8_whistles_251 ?_
        refine n_iast hx hb hK hP hD hS 1 0 rfl rfl 5 (by decide) (by decide) dX8_whistles_252 (fun H locs hP hD hS => ?_)
        have hP : va_P G vwCl [(q 0, .inr (8, [.int (Z 0 0), .ref (q 2), .ref (q 3), .int (Z 0 3), .ref (q 5), .int (Z 0 5), .ref (q 7), .int (Z 0 7), .int (Z 0 8), .int (Z 0 9), .int (Z 0 10), .int (Z 0 11), .ref (q 13), .int (Z 0 13), .ref (q 15), .long g])), (q 2, .inl (T 0, 267, .inl (upd (upd ((upd ((upd ((mWhL Z r mm k)) (14 + 5 * r + 1) ((((mWhL Z r mm k)) (14 + 5 * r + 1)) + (mOn (mCa Z r mm 3) 6)))) (47 + 11 * mm + 1) (((upd ((mWhL Z r mm k)) (14 + 5 * r + 1) ((((mWhL Z r mm k)) (14 + 5 * r + 1)) + (mOn (mCa Z r mm 3) 6))) (47 + 11 * mm + 1)) + (nI 1)))) (47 + 11 * mm + 2) (((upd ((upd ((mWhL Z r mm k)) (14 + 5 * r + 1) ((((mWhL Z r mm k)) (14 + 5 * r + 1)) + (mOn (mCa Z r mm 3) 6)))) (47 + 11 * mm + 1) (((upd ((mWhL Z r mm k)) (14 + 5 * r + 1) ((((mWhL Z r mm k)) (14 + 5 * r + 1)) + (mOn (mCa Z r mm 3) 6))) (47 + 11 * mm + 1)) + (nI 1))) (47 + 11 * mm + 2)) + (mOn (mKn Z r 6) 6))) 5 (((upd ((upd ((upd ((mWhL Z r mm k)) (14 + 5 * r + 1) ((((mWhL Z r mm k)) (14 + 5 * r + 1)) + (mOn (mCa Z r mm 3) 6)))) (47 + 11 * mm + 1) (((upd ((mWhL Z r mm k)) (14 + 5 * r + 1) ((((mWhL Z r mm k)) (14 + 5 * r + 1)) + (mOn (mCa Z r mm 3) 6))) (47 + 11 * mm + 1)) + (nI 1)))) (47 + 11 * mm + 2) (((upd ((upd ((mWhL Z r mm k)) (14 + 5 * r + 1) ((((mWhL Z r mm k)) (14 + 5 * r + 1)) + (mOn (mCa Z r mm 3) 6)))) (47 + 11 * mm + 1) (((upd ((mWhL Z r mm k)) (14 + 5 * r + 1) ((((mWhL Z r mm k)) (14 + 5 * r + 1)) + (mOn (mCa Z r mm 3) 6))) (47 + 11 * mm + 1)) + (nI 1))) (47 + 11 * mm + 2)) + (mOn (mKn Z r 6) 6))) 5) + (nI 1))))), (q 3, .inl (T 0, 1602, .inl (Z 3))), (q 5, .inl (T 0, 267, .inl (Z 5))), (q 7, .inl (T 0, 60, .inl (Z 7))), (q 13, .inl (T 0, 8, .inl (Z 13))), (q 15, .inl (T 0, 3, .inl (Z 15)))] H := hP
        have hD : va_D A [(q 0, .inr (8, [.int (Z 0 0), .ref (q 2), .ref (q 3), .int (Z 0 3), .ref (q 5), .int (Z 0 5), .ref (q 7), .int (Z 0 7), .int (Z 0 8), .int (Z 0 9), .int (Z 0 10), .int (Z 0 11), .ref (q 13), .int (Z 0 13), .ref (q 15), .long g])), (q 2, .inl (T 0, 267, .inl (upd (upd ((upd ((upd ((mWhL Z r mm k)) (14 + 5 * r + 1) ((((mWhL Z r mm k)) (14 + 5 * r + 1)) + (mOn (mCa Z r mm 3) 6)))) (47 + 11 * mm + 1) (((upd ((mWhL Z r mm k)) (14 + 5 * r + 1) ((((mWhL Z r mm k)) (14 + 5 * r + 1)) + (mOn (mCa Z r mm 3) 6))) (47 + 11 * mm + 1)) + (nI 1)))) (47 + 11 * mm + 2) (((upd ((upd ((mWhL Z r mm k)) (14 + 5 * r + 1) ((((mWhL Z r mm k)) (14 + 5 * r + 1)) + (mOn (mCa Z r mm 3) 6)))) (47 + 11 * mm + 1) (((upd ((mWhL Z r mm k)) (14 + 5 * r + 1) ((((mWhL Z r mm k)) (14 + 5 * r + 1)) + (mOn (mCa Z r mm 3) 6))) (47 + 11 * mm + 1)) + (nI 1))) (47 + 11 * mm + 2)) + (mOn (mKn Z r 6) 6))) 5 (((upd ((upd ((upd ((mWhL Z r mm k)) (14 + 5 * r + 1) ((((mWhL Z r mm k)) (14 + 5 * r + 1)) + (mOn (mCa Z r mm 3) 6)))) (47 + 11 * mm + 1) (((upd ((mWhL Z r mm k)) (14 + 5 * r + 1) ((((mWhL Z r mm k)) (14 + 5 * r + 1)) + (mOn (mCa Z r mm 3) 6))) (47 + 11 * mm + 1)) + (nI 1)))) (47 + 11 * mm + 2) (((upd ((upd ((mWhL Z r mm k)) (14 + 5 * r + 1) ((((mWhL Z r mm k)) (14 + 5 * r + 1)) + (mOn (mCa Z r mm 3) 6)))) (47 + 11 * mm + 1) (((upd ((mWhL Z r mm k)) (14 + 5 * r + 1) ((((mWhL Z r mm k)) (14 + 5 * r + 1)) + (mOn (mCa Z r mm 3) 6))) (47 + 11 * mm + 1)) + (nI 1))) (47 + 11 * mm + 2)) + (mOn (mKn Z r 6) 6))) 5) + (nI 1))))), (q 3, .inl (T 0, 1602, .inl (Z 3))), (q 5, .inl (T 0, 267, .inl (Z 5))), (q 7, .inl (T 0, 60, .inl (Z 7))), (q 13, .inl (T 0, 8, .inl (Z 13))), (q 15, .inl (T 0, 3, .inl (Z 15)))] := hD
        refine lv_iload hx hb dX8_whistles_253 (lv_at hl 3 rfl) ?_
        refine k_roS (As := [.int (mKn Z r 6)]) (rest := []) (wc := []) (d := 0) (v := mOn (mKn Z r 6) 6) cx (c_X8_ones l G T A (mKn Z r 6) ) (va_cwS 1 hts gX8_whistles_X8_ones rfl rfl rfl (by decide +kernel) ⟨Nat.le_of_ble_eq_true rfl, Nat.le_of_ble_eq_true rfl⟩) (hP.sub (ws' := []) [] rfl) hK (hE.kept hS.2.1) rfl hl.1 rfl (Nat.le_of_ble_eq_true rfl) dX8_whistles_255 ⟨Nat.le_of_ble_eq_true rfl, Nat.le_of_ble_eq_true rfl⟩ ?_
        subst hQ
        have e_4 : (upd (upd ((upd ((upd ((mWhL Z r mm k)) (14 + 5 * r + 1) ((((mWhL Z r mm k)) (14 + 5 * r + 1)) + (mOn (mCa Z r mm 3) 6)))) (47 + 11 * mm + 1) (((upd ((mWhL Z r mm k)) (14 + 5 * r + 1) ((((mWhL Z r mm k)) (14 + 5 * r + 1)) + (mOn (mCa Z r mm 3) 6))) (47 + 11 * mm + 1)) + (nI 1)))) (47 + 11 * mm + 2) (((upd ((upd ((mWhL Z r mm k)) (14 + 5 * r + 1) ((((mWhL Z r mm k)) (14 + 5 * r + 1)) + (mOn (mCa Z r mm 3) 6)))) (47 + 11 * mm + 1) (((upd ((mWhL Z r mm k)) (14 + 5 * r + 1) ((((mWhL Z r mm k)) (14 + 5 * r + 1)) + (mOn (mCa Z r mm 3) 6))) (47 + 11 * mm + 1)) + (nI 1))) (47 + 11 * mm + 2)) + (mOn (mKn Z r 6) 6))) 5 (((upd ((upd ((upd ((mWhL Z r mm k)) (14 + 5 * r + 1) ((((mWhL Z r mm k)) (14 + 5 * r + 1)) + (mOn (mCa Z r mm 3) 6)))) (47 + 11 * mm + 1) (((upd ((mWhL Z r mm k)) (14 + 5 * r + 1) ((((mWhL Z r mm k)) (14 + 5 * r + 1)) + (mOn (mCa Z r mm 3) 6))) (47 + 11 * mm + 1)) + (nI 1)))) (47 + 11 * mm + 2) (((upd ((upd ((mWhL Z r mm k)) (14 + 5 * r + 1) ((((mWhL Z r mm k)) (14 + 5 * r + 1)) + (mOn (mCa Z r mm 3) 6)))) (47 + 11 * mm + 1) (((upd ((mWhL Z r mm k)) (14 + 5 * r + 1) ((((mWhL Z r mm k)) (14 + 5 * r + 1)) + (mOn (mCa Z r mm 3) 6))) (47 + 11 * mm + 1)) + (nI 1))) (47 + 11 * mm + 2)) + (mOn (mKn Z r 6) 6))) 5) + (nI 1))) = mWhF Z r mm := (by obtain rfl : k = 6 := (by omega); rfl)
        rw [e_4] at hP hD
        have hP9 : va_P G vwCl (oX8 T q (sa Z 2 (mWhF Z r mm)) g) H := hP
        have hD9 : va_D A (oX8 T q (sa Z 2 (mWhF Z r mm)) g) := hD
        exact e_rwi hx hb hr hlocks hS (by first | rfl | simp [bI, c_2]) hP9 hD9 dX8_whistles_258
      · skip
        refine lv_iload_n hx hb dX8_whistles_96 rfl (lv_at hl 4 rfl) ?_
        refine lv_iload hx hb dX8_whistles_97 (lv_at hl 0 rfl) ?_
        refine x_ishr hx hb dX8_whistles_99 ?_
        refine n_iconst hx hb 1 dX8_whistles_100 (by decide) ?_
        refine lv_iand hx hb dX8_whistles_101 ?_
        refine n_iconst hx hb 1 dX8_whistles_102 (by decide) ?_
        have J_5 : ∀ y9 : Int32, y9 = (bI (mBit (mHe Z r 6) k)) → W p l e (headSpec wsX8_whistles (rmD 5 0 0)).room s m args below meth c H locs 0 0 Q0 (F0 m 111 ls (.int y9 :: [])) := by
          intro y9 hy9
          subst hy9
          refine lv_istore (lv' := [(8, .int (bI (mBit (mHe Z r 6) k))), (7, .int (nI k)), (6, .int (mCa Z r mm 3)), (5, .int (mRa Z r mm)), (4, .int (mKn Z r 6)), (3, .int (mHe Z r 6)), (0, .ref (q 0)), (1, .int (nI r)), (2, .int (nI mm))]) hx hb dX8_whistles_111 hl (by decide) rfl (fun ls hl => ?_)
          refine lv_iload hx hb dX8_whistles_113 (lv_at hl 4 rfl) ?_
          refine lv_iload hx hb dX8_whistles_115 (lv_at hl 1 rfl) ?_
          refine x_ishr hx hb dX8_whistles_117 ?_
          refine n_iconst hx hb 1 dX8_whistles_118 (by decide) ?_
          refine lv_iand hx hb dX8_whistles_119 ?_
          refine n_iconst hx hb 1 dX8_whistles_120 (by decide) ?_
          have J_6 : ∀ y9 : Int32, y9 = (bI (mBit (mKn Z r 6) k)) → W p l e (headSpec wsX8_whistles (rmD 5 0 0)).room s m args below meth c H locs 0 0 Q0 (F0 m 129 ls (.int y9 :: [])) := by
            intro y9 hy9
            subst hy9
            refine lv_istore (lv' := [(9, .int (bI (mBit (mKn Z r 6) k))), (8, .int (bI (mBit (mHe Z r 6) k))), (7, .int (nI k)), (6, .int (mCa Z r mm 3)), (5, .int (mRa Z r mm)), (4, .int (mKn Z r 6)), (3, .int (mHe Z r 6)), (0, .ref (q 0)), (1, .int (nI r)), (2, .int (nI mm))]) hx hb dX8_whistles_129 hl (by decide) rfl (fun ls hl => ?_)
            refine lv_aload_n hx hb dX8_whistles_131 rfl (lv_at hl 7 rfl) ?_
            refine lv_iload hx hb dX8_whistles_132 (lv_at hl 2 rfl) ?_
            refine n_iconst hx hb 3 dX8_whistles_134 (by decide) ?_
            refine lv_iload hx hb dX8_whistles_135 (lv_at hl 0 rfl) ?_
            have J_7 : ∀ y9 : Int32, y9 = (bI (mBit (mKn Z r 6) k)) → W p l e (headSpec wsX8_whistles (rmD 5 0 0)).room s m args below meth c H locs 0 0 Q0 (F0 m 145 ls (.int y9 :: .int (nI 3) :: .int (nI k) :: .ref (q 0) :: [])) := by
              intro y9 hy9
              subst hy9
              refine k_rvV (As := [.int (nI k), .int (nI 3), .int (bI (mBit (mKn Z r 6) k))]) (rest := []) (wc := oX8 T q (sa Z 2 (mWhL Z r mm k)) g) (wr := []) (w1 := oX8 T q (sa (sa Z 2 (mWhL Z r mm k)) 2 (upd ((sa Z 2 (mWhL Z r mm k)) 2) (14 + 5 * k + 3) ((((sa Z 2 (mWhL Z r mm k)) 2) (14 + 5 * k + 3)) + (bI (mBit (mKn Z r 6) k))))) g) (d := 0) (mc := 0) (ms := 0) (isC := [0, 1, 2, 3, 4, 5, 6]) (isR := []) cx (c_X8_addTo l G T H.size q (sa Z 2 (mWhL Z r mm k)) g k 3 (bI (mBit (mKn Z r 6) k)) (by omega) (by omega)) (cwV 3 hts gX8_whistles_X8_addTo rfl rfl rfl (by decide +kernel) ⟨Nat.le_of_ble_eq_true rfl, Nat.le_of_ble_eq_true rfl⟩) ⟨hP, hD, hS, hA, hE, hK, rfl, rfl, rfl, rfl, by decide⟩ (va_recv hK hP (ci := 8) (q0 := 0) rfl rfl) rfl hl.1 rfl (Nat.le_of_ble_eq_true rfl) dX8_whistles_145 ⟨Nat.le_of_ble_eq_true rfl, Nat.le_of_ble_eq_true rfl⟩ (fun H locs hP hD hS hz => ?_)
              have hP : va_P G vwCl [(q 0, .inr (8, [.int (Z 0 0), .ref (q 2), .ref (q 3), .int (Z 0 3), .ref (q 5), .int (Z 0 5), .ref (q 7), .int (Z 0 7), .int (Z 0 8), .int (Z 0 9), .int (Z 0 10), .int (Z 0 11), .ref (q 13), .int (Z 0 13), .ref (q 15), .long g])), (q 2, .inl (T 0, 267, .inl (upd ((mWhL Z r mm k)) (14 + 5 * k + 3) ((((mWhL Z r mm k)) (14 + 5 * k + 3)) + (bI (mBit (mKn Z r 6) k)))))), (q 3, .inl (T 0, 1602, .inl (Z 3))), (q 5, .inl (T 0, 267, .inl (Z 5))), (q 7, .inl (T 0, 60, .inl (Z 7))), (q 13, .inl (T 0, 8, .inl (Z 13))), (q 15, .inl (T 0, 3, .inl (Z 15)))] H := hP
              have hD : va_D A [(q 0, .inr (8, [.int (Z 0 0), .ref (q 2), .ref (q 3), .int (Z 0 3), .ref (q 5), .int (Z 0 5), .ref (q 7), .int (Z 0 7), .int (Z 0 8), .int (Z 0 9), .int (Z 0 10), .int (Z 0 11), .ref (q 13), .int (Z 0 13), .ref (q 15), .long g])), (q 2, .inl (T 0, 267, .inl (upd ((mWhL Z r mm k)) (14 + 5 * k + 3) ((((mWhL Z r mm k)) (14 + 5 * k + 3)) + (bI (mBit (mKn Z r 6) k)))))), (q 3, .inl (T 0, 1602, .inl (Z 3))), (q 5, .inl (T 0, 267, .inl (Z 5))), (q 7, .inl (T 0, 60, .inl (Z 7))), (q 13, .inl (T 0, 8, .inl (Z 13))), (q 15, .inl (T 0, 3, .inl (Z 15)))] := hD
              refine lv_aload_n hx hb dX8_whistles_148 rfl (lv_at hl 7 rfl) ?_
              refine lv_iload hx hb dX8_whistles_149 (lv_at hl 2 rfl) ?_
              refine n_iconst hx hb 4 dX8_whistles_151 (by decide) ?_
              refine lv_iload hx hb dX8_whistles_152 (lv_at hl 1 rfl) ?_
              have J_8 : ∀ y9 : Int32, y9 = (bI (mBit (mHe Z r 6) k && !mBit (mKn Z r 6) k)) → W p l e (headSpec wsX8_whistles (rmD 5 0 0)).room s m args below meth c H locs 0 0 Q0 (F0 m 167 ls (.int y9 :: .int (nI 4) :: .int (nI k) :: .ref (q 0) :: [])) := by
                intro y9 hy9
                subst hy9
                refine k_rvV (As := [.int (nI k), .int (nI 4), .int (bI (mBit (mHe Z r 6) k && !mBit (mKn Z r 6) k))]) (rest := []) (wc := oX8 T q (sa Z 2 (upd ((mWhL Z r mm k)) (14 + 5 * k + 3) ((((mWhL Z r mm k)) (14 + 5 * k + 3)) + (bI (mBit (mKn Z r 6) k))))) g) (wr := []) (w1 := oX8 T q (sa (sa Z 2 (upd ((mWhL Z r mm k)) (14 + 5 * k + 3) ((((mWhL Z r mm k)) (14 + 5 * k + 3)) + (bI (mBit (mKn Z r 6) k))))) 2 (upd ((sa Z 2 (upd ((mWhL Z r mm k)) (14 + 5 * k + 3) ((((mWhL Z r mm k)) (14 + 5 * k + 3)) + (bI (mBit (mKn Z r 6) k))))) 2) (14 + 5 * k + 4) ((((sa Z 2 (upd ((mWhL Z r mm k)) (14 + 5 * k + 3) ((((mWhL Z r mm k)) (14 + 5 * k + 3)) + (bI (mBit (mKn Z r 6) k))))) 2) (14 + 5 * k + 4)) + (bI (mBit (mHe Z r 6) k && !mBit (mKn Z r 6) k))))) g) (d := 0) (mc := 0) (ms := 0) (isC := [0, 1, 2, 3, 4, 5, 6]) (isR := []) cx (c_X8_addTo l G T H.size q (sa Z 2 (upd ((mWhL Z r mm k)) (14 + 5 * k + 3) ((((mWhL Z r mm k)) (14 + 5 * k + 3)) + (bI (mBit (mKn Z r 6) k))))) g k 4 (bI (mBit (mHe Z r 6) k && !mBit (mKn Z r 6) k)) (by omega) (by omega)) (cwV 3 hts gX8_whistles_X8_addTo rfl rfl rfl (by decide +kernel) ⟨Nat.le_of_ble_eq_true rfl, Nat.le_of_ble_eq_true rfl⟩) ⟨hP, hD, hS, hA, hE, hK, rfl, rfl, rfl, rfl, by decide⟩ (va_recv hK hP (ci := 8) (q0 := 0) rfl rfl) rfl hl.1 rfl (Nat.le_of_ble_eq_true rfl) dX8_whistles_167 ⟨Nat.le_of_ble_eq_true rfl, Nat.le_of_ble_eq_true rfl⟩ (fun H locs hP hD hS hz => ?_)
                have hP : va_P G vwCl [(q 0, .inr (8, [.int (Z 0 0), .ref (q 2), .ref (q 3), .int (Z 0 3), .ref (q 5), .int (Z 0 5), .ref (q 7), .int (Z 0 7), .int (Z 0 8), .int (Z 0 9), .int (Z 0 10), .int (Z 0 11), .ref (q 13), .int (Z 0 13), .ref (q 15), .long g])), (q 2, .inl (T 0, 267, .inl (upd ((upd ((mWhL Z r mm k)) (14 + 5 * k + 3) ((((mWhL Z r mm k)) (14 + 5 * k + 3)) + (bI (mBit (mKn Z r 6) k))))) (14 + 5 * k + 4) ((((upd ((mWhL Z r mm k)) (14 + 5 * k + 3) ((((mWhL Z r mm k)) (14 + 5 * k + 3)) + (bI (mBit (mKn Z r 6) k))))) (14 + 5 * k + 4)) + (bI (mBit (mHe Z r 6) k && !mBit (mKn Z r 6) k)))))), (q 3, .inl (T 0, 1602, .inl (Z 3))), (q 5, .inl (T 0, 267, .inl (Z 5))), (q 7, .inl (T 0, 60, .inl (Z 7))), (q 13, .inl (T 0, 8, .inl (Z 13))), (q 15, .inl (T 0, 3, .inl (Z 15)))] H := hP
                have hD : va_D A [(q 0, .inr (8, [.int (Z 0 0), .ref (q 2), .ref (q 3), .int (Z 0 3), .ref (q 5), .int (Z 0 5), .ref (q 7), .int (Z 0 7), .int (Z 0 8), .int (Z 0 9), .int (Z 0 10), .int (Z 0 11), .ref (q 13), .int (Z 0 13), .ref (q 15), .long g])), (q 2, .inl (T 0, 267, .inl (upd ((upd ((mWhL Z r mm k)) (14 + 5 * k + 3) ((((mWhL Z r mm k)) (14 + 5 * k + 3)) + (bI (mBit (mKn Z r 6) k))))) (14 + 5 * k + 4) ((((upd ((mWhL Z r mm k)) (14 + 5 * k + 3) ((((mWhL Z r mm k)) (14 + 5 * k + 3)) + (bI (mBit (mKn Z r 6) k))))) (14 + 5 * k + 4)) + (bI (mBit (mHe Z r 6) k && !mBit (mKn Z r 6) k)))))), (q 3, .inl (T 0, 1602, .inl (Z 3))), (q 5, .inl (T 0, 267, .inl (Z 5))), (q 7, .inl (T 0, 60, .inl (Z 7))), (q 13, .inl (T 0, 8, .inl (Z 13))), (q 15, .inl (T 0, 3, .inl (Z 15)))] := hD
                refine lv_aload_n hx hb dX8_whistles_170 rfl (lv_at hl 7 rfl) ?_
                refine va_get (D := G) (ci := 8) (v := .ref (q 2)) (C := RX8) (T := TX8) (N := 16) hx hb hts hinX8 hown hK hP 0 rfl rfl 1 (by decide) lk7 (fun _ h9 => h9) rfl dX8_whistles_171 ?_
                refine lv_bipush (v := nI 14) hx hb dX8_whistles_174 (by decide) ?_
                refine n_iconst hx hb 5 dX8_whistles_176 (by decide) ?_
                refine lv_iload hx hb dX8_whistles_177 (lv_at hl 2 rfl) ?_
                refine n_imul (a := 5) (b := k) hx hb dX8_whistles_179 ?_
                refine n_iadd (a := 14) (b := 5 * k) hx hb dX8_whistles_180 ?_
                refine n_iconst hx hb 2 dX8_whistles_181 (by decide) ?_
                refine n_iadd (a := 14 + 5 * k) (b := 2) hx hb dX8_whistles_182 ?_
                refine lv_dup2_11 hx hb dX8_whistles_183 rfl rfl ?_
                refine n_iald hx hb hK hP 1 0 rfl rfl (14 + 5 * k + 2) (by omega) (by decide) dX8_whistles_184 ?_
                refine lv_iload hx hb dX8_whistles_185 (lv_at hl 4 rfl) ?_
                refine lv_iload hx hb dX8_whistles_187 (lv_at hl 2 rfl) ?_
                refine x_ishr hx hb dX8_whistles_189 ?_
                refine n_iconst hx hb 1 dX8_whistles_190 (by decide) ?_
                refine lv_iand hx hb dX8_whistles_191 ?_
                refine lv_ior hx hb dX8_whistles_192 ?_
                refine n_iast hx hb hK hP hD hS 1 0 rfl rfl (14 + 5 * k + 2) (by omega) (by decide) dX8_whistles_193 (fun H locs hP hD hS => ?_)
                have hP : va_P G vwCl [(q 0, .inr (8, [.int (Z 0 0), .ref (q 2), .ref (q 3), .int (Z 0 3), .ref (q 5), .int (Z 0 5), .ref (q 7), .int (Z 0 7), .int (Z 0 8), .int (Z 0 9), .int (Z 0 10), .int (Z 0 11), .ref (q 13), .int (Z 0 13), .ref (q 15), .long g])), (q 2, .inl (T 0, 267, .inl (upd (upd ((upd ((mWhL Z r mm k)) (14 + 5 * k + 3) ((((mWhL Z r mm k)) (14 + 5 * k + 3)) + (bI (mBit (mKn Z r 6) k))))) (14 + 5 * k + 4) ((((upd ((mWhL Z r mm k)) (14 + 5 * k + 3) ((((mWhL Z r mm k)) (14 + 5 * k + 3)) + (bI (mBit (mKn Z r 6) k))))) (14 + 5 * k + 4)) + (bI (mBit (mHe Z r 6) k && !mBit (mKn Z r 6) k)))) (14 + 5 * k + 2) (((upd ((upd ((mWhL Z r mm k)) (14 + 5 * k + 3) ((((mWhL Z r mm k)) (14 + 5 * k + 3)) + (bI (mBit (mKn Z r 6) k))))) (14 + 5 * k + 4) ((((upd ((mWhL Z r mm k)) (14 + 5 * k + 3) ((((mWhL Z r mm k)) (14 + 5 * k + 3)) + (bI (mBit (mKn Z r 6) k))))) (14 + 5 * k + 4)) + (bI (mBit (mHe Z r 6) k && !mBit (mKn Z r 6) k)))) (14 + 5 * k + 2)) ||| ((iShr (mRa Z r mm) (nI k)) &&& (nI 1)))))), (q 3, .inl (T 0, 1602, .inl (Z 3))), (q 5, .inl (T 0, 267, .inl (Z 5))), (q 7, .inl (T 0, 60, .inl (Z 7))), (q 13, .inl (T 0, 8, .inl (Z 13))), (q 15, .inl (T 0, 3, .inl (Z 15)))] H := hP
                have hD : va_D A [(q 0, .inr (8, [.int (Z 0 0), .ref (q 2), .ref (q 3), .int (Z 0 3), .ref (q 5), .int (Z 0 5), .ref (q 7), .int (Z 0 7), .int (Z 0 8), .int (Z 0 9), .int (Z 0 10), .int (Z 0 11), .ref (q 13), .int (Z 0 13), .ref (q 15), .long g])), (q 2, .inl (T 0, 267, .inl (upd (upd ((upd ((mWhL Z r mm k)) (14 + 5 * k + 3) ((((mWhL Z r mm k)) (14 + 5 * k + 3)) + (bI (mBit (mKn Z r 6) k))))) (14 + 5 * k + 4) ((((upd ((mWhL Z r mm k)) (14 + 5 * k + 3) ((((mWhL Z r mm k)) (14 + 5 * k + 3)) + (bI (mBit (mKn Z r 6) k))))) (14 + 5 * k + 4)) + (bI (mBit (mHe Z r 6) k && !mBit (mKn Z r 6) k)))) (14 + 5 * k + 2) (((upd ((upd ((mWhL Z r mm k)) (14 + 5 * k + 3) ((((mWhL Z r mm k)) (14 + 5 * k + 3)) + (bI (mBit (mKn Z r 6) k))))) (14 + 5 * k + 4) ((((upd ((mWhL Z r mm k)) (14 + 5 * k + 3) ((((mWhL Z r mm k)) (14 + 5 * k + 3)) + (bI (mBit (mKn Z r 6) k))))) (14 + 5 * k + 4)) + (bI (mBit (mHe Z r 6) k && !mBit (mKn Z r 6) k)))) (14 + 5 * k + 2)) ||| ((iShr (mRa Z r mm) (nI k)) &&& (nI 1)))))), (q 3, .inl (T 0, 1602, .inl (Z 3))), (q 5, .inl (T 0, 267, .inl (Z 5))), (q 7, .inl (T 0, 60, .inl (Z 7))), (q 13, .inl (T 0, 8, .inl (Z 13))), (q 15, .inl (T 0, 3, .inl (Z 15)))] := hD
                refine lv_iinc (v := nI (k + 1)) (lv' := [(7, .int (nI (k + 1))), (9, .int (bI (mBit (mKn Z r 6) k))), (8, .int (bI (mBit (mHe Z r 6) k))), (6, .int (mCa Z r mm 3)), (5, .int (mRa Z r mm)), (4, .int (mKn Z r 6)), (3, .int (mHe Z r 6)), (0, .ref (q 0)), (1, .int (nI r)), (2, .int (nI mm))]) hx hb dX8_whistles_194 hl (k := 2) rfl (n_inc k 1 rfl) (by decide) rfl (fun ls hl => ?_)
                refine lv_goto (tgt := 89) hx hb dX8_whistles_197 (by decide) ?_
                have e_9 : (upd (upd ((upd ((mWhL Z r mm k)) (14 + 5 * k + 3) ((((mWhL Z r mm k)) (14 + 5 * k + 3)) + (bI (mBit (mKn Z r 6) k))))) (14 + 5 * k + 4) ((((upd ((mWhL Z r mm k)) (14 + 5 * k + 3) ((((mWhL Z r mm k)) (14 + 5 * k + 3)) + (bI (mBit (mKn Z r 6) k))))) (14 + 5 * k + 4)) + (bI (mBit (mHe Z r 6) k && !mBit (mKn Z r 6) k)))) (14 + 5 * k + 2) (((upd ((upd ((mWhL Z r mm k)) (14 + 5 * k + 3) ((((mWhL Z r mm k)) (14 + 5 * k + 3)) + (bI (mBit (mKn Z r 6) k))))) (14 + 5 * k + 4) ((((upd ((mWhL Z r mm k)) (14 + 5 * k + 3) ((((mWhL Z r mm k)) (14 + 5 * k + 3)) + (bI (mBit (mKn Z r 6) k))))) (14 + 5 * k + 4)) + (bI (mBit (mHe Z r 6) k && !mBit (mKn Z r 6) k)))) (14 + 5 * k + 2)) ||| ((iShr (mRa Z r mm) (nI k)) &&& (nI 1)))) = mWhL Z r mm (k + 1) := rfl
                exact ih89 (k + 1) (by omega) (by omega) _ _ rfl e_9 _ _ hP hD hS _ (lv_sub hl [0, 3, 4, 5, 6, 7, 8, 9] rfl)
              refine b_if_eq (b := mBit (mHe Z r 6) k) (tgt := 166) hx hb dX8_whistles_154 (by decide) (fun c_10 => ?_) (fun c_11 => ?_)
              · skip
                refine n_iconst hx hb 0 dX8_whistles_166 (by decide) ?_
                exact J_8 _ (by simp [bI, c_3, c_10])
              · skip
                refine lv_iload hx hb dX8_whistles_157 (lv_at hl 0 rfl) ?_
                refine b_if_ne (b := mBit (mKn Z r 6) k) (tgt := 166) hx hb dX8_whistles_159 (by decide) (fun c_12 => ?_) (fun c_13 => ?_)
                · skip
                  refine n_iconst hx hb 0 dX8_whistles_166 (by decide) ?_
                  exact J_8 _ (by simp [bI, c_3, c_11, c_12])
                · skip
                  refine n_iconst hx hb 1 dX8_whistles_162 (by decide) ?_
                  refine lv_goto (tgt := 167) hx hb dX8_whistles_163 (by decide) ?_
                  exact J_8 _ (by simp [bI, c_3, c_11, c_13])
            refine b_if_eq (b := mBit (mKn Z r 6) k) (tgt := 144) hx hb dX8_whistles_137 (by decide) (fun c_14 => ?_) (fun c_15 => ?_)
            · skip
              refine n_iconst hx hb 0 dX8_whistles_144 (by decide) ?_
              exact J_7 _ (by rw [c_14]; rfl)
            · skip
              refine n_iconst hx hb 1 dX8_whistles_140 (by decide) ?_
              refine lv_goto (tgt := 145) hx hb dX8_whistles_141 (by decide) ?_
              exact J_7 _ (by rw [c_15]; rfl)
          refine lv_icmp_ne (tgt := 128) hx hb dX8_whistles_121 (by decide) (fun c_16 => ?_) (fun c_17 => ?_)
          · skip
            refine n_iconst hx hb 0 dX8_whistles_128 (by decide) ?_
            exact J_6 _ (by simp [mBit, bI, c_3, c_16])
          · skip
            refine n_iconst hx hb 1 dX8_whistles_124 (by decide) ?_
            refine lv_goto (tgt := 129) hx hb dX8_whistles_125 (by decide) ?_
            exact J_6 _ (by simp [mBit, bI, c_3, c_17])
        refine lv_icmp_ne (tgt := 110) hx hb dX8_whistles_103 (by decide) (fun c_18 => ?_) (fun c_19 => ?_)
        · skip
          refine n_iconst hx hb 0 dX8_whistles_110 (by decide) ?_
          exact J_5 _ (by simp [mBit, bI, c_3, c_18])
        · skip
          refine n_iconst hx hb 1 dX8_whistles_106 (by decide) ?_
          refine lv_goto (tgt := 111) hx hb dX8_whistles_107 (by decide) ?_
          exact J_5 _ (by simp [mBit, bI, c_3, c_19])
  exact L89 (6 + 1) 0 (by omega) (by omega) _ _ rfl rfl _ _ hP hD hS _ (lv_sub hl [0, 1, 2, 3, 4, 5, 6, 7] rfl)
set_option maxHeartbeats 4000000 in
set_option maxRecDepth 100000 in
theorem c_X8_whyNotPart (l : Launch) (G : va_G) (T : Nat → ClassId) (A : Nat → Prop) (q : Nat → Nat) (Z : Nat → Nat → Int32) (g : Int64) (sg : Nat) (fi : Nat) (se : Nat) (n : Nat) (hsg : Z 0 9 = nI sg) (hsb : sg < 128) (hfi : ¬ sg = 33 → Z 0 10 = nI fi) (hse : sg = 119 → Z 0 11 = nI se) (hfb : fi < 20) (hf6 : sg = 119 ∨ sg = 116 → fi < 6) (hs20 : se < 20) (hmany : Z 0 13 = nI n) (hn9 : n ≤ 9) : RO l yX8_whyNotPart wsX8_whyNotPart 4 G T A (oX8 T q Z g) [.ref (q 0)] (mPy Z sg fi se n) := by
  refine Met.ofW (cc := cX8_whyNotPart) (maxL := 1) (ret := (some .int)) (by decide) rfl ?_
  intro p e s m args below meth c s₁ B hml hv
  obtain ⟨ha, hP, hK, hE⟩ := hv
  have hx := B.exec
  have hb := B.bytes
  have hr := B.returns
  have hlocks := B.notSynchronized
  have hts := atoms_spec (ws := wsX8_whyNotPart) B.pre
  have hown : s.vm.findClass RX8 = some m.cls := findClass_of_methodNamed B.named
  have cx : CallFix p m c cX8_whyNotPart 1 s args wsX8_whyNotPart RX8 := ⟨hx, hb, hml, hown, hts⟩
  refine w_entry ha (Nat.le_of_ble_eq_true rfl) (fun ls hl => ?_)
  refine w_q (fun Q0 hQ => ?_)
  have lk178 := hts (.fieldLink RX8 178 "WhistleTunesModel" "sign" "I") (by decide +kernel)
  have hinX8 : ∀ w ∈ wsX80, w ∈ wsX8_whyNotPart := by decide +kernel
  have lk169 := hts (.fieldLink RX8 169 "WhistleTunesModel" "first" "I") (by decide +kernel)
  have lk175 := hts (.fieldLink RX8 175 "WhistleTunesModel" "second" "I") (by decide +kernel)
  have hl : lv_has ls 1 [(0, .ref (q 0))] := hl
  have hP : va_P G vwCl [(q 0, .inr (8, [.int (Z 0 0), .ref (q 2), .ref (q 3), .int (Z 0 3), .ref (q 5), .int (Z 0 5), .ref (q 7), .int (Z 0 7), .int (Z 0 8), .int (Z 0 9), .int (Z 0 10), .int (Z 0 11), .ref (q 13), .int (Z 0 13), .ref (q 15), .long g])), (q 2, .inl (T 0, 267, .inl (Z 2))), (q 3, .inl (T 0, 1602, .inl (Z 3))), (q 5, .inl (T 0, 267, .inl (Z 5))), (q 7, .inl (T 0, 60, .inl (Z 7))), (q 13, .inl (T 0, 8, .inl (Z 13))), (q 15, .inl (T 0, 3, .inl (Z 15)))] s.heap := hP
  refine lv_aload_n hx hb dX8_whyNotPart_0 rfl (lv_at hl 0 rfl) ?_
  refine va_get (D := G) (ci := 8) (v := .int (Z 0 9)) (C := RX8) (T := TX8) (N := 16) hx hb hts hinX8 hown hK hP 0 rfl rfl 9 (by decide) lk178 (fun _ h9 => h9) rfl dX8_whyNotPart_1 ?_
  refine n_top (y := nI sg) hsg ?_
  by_cases c_1 : sg = 33
  · skip
    refine n_top (y := nI 33) (congrArg nI c_1) ?_
    refine lv_lookup (off := 57) (tgt := 61) hx hb dX8_whyNotPart_4 (by decide) (by rw [nI_toInt (by decide)]; rfl) (by decide) ?_
    refine n_iconst hx hb 0 dX8_whyNotPart_61 (by decide) ?_
    subst hQ
    exact e_ro hx hb hr hlocks (by unfold mPy; first | rw [if_pos (by omega)] | rw [if_neg (by omega), if_pos (by omega)] | rw [if_neg (by omega), if_neg (by omega)]) dX8_whyNotPart_62
  · skip
    by_cases c_2 : sg = 107
    · skip
      refine n_top (y := nI 107) (congrArg nI c_2) ?_
      refine lv_lookup (off := 57) (tgt := 61) hx hb dX8_whyNotPart_4 (by decide) (by rw [nI_toInt (by decide)]; rfl) (by decide) ?_
      refine n_iconst hx hb 0 dX8_whyNotPart_61 (by decide) ?_
      subst hQ
      exact e_ro hx hb hr hlocks (by unfold mPy; first | rw [if_pos (by omega)] | rw [if_neg (by omega), if_pos (by omega)] | rw [if_neg (by omega), if_neg (by omega)]) dX8_whyNotPart_62
    · skip
      by_cases c_3 : sg = 116
      · skip
        refine n_top (y := nI 116) (congrArg nI c_3) ?_
        refine lv_lookup (off := 57) (tgt := 61) hx hb dX8_whyNotPart_4 (by decide) (by rw [nI_toInt (by decide)]; rfl) (by decide) ?_
        refine n_iconst hx hb 0 dX8_whyNotPart_61 (by decide) ?_
        subst hQ
        exact e_ro hx hb hr hlocks (by unfold mPy; first | rw [if_pos (by omega)] | rw [if_neg (by omega), if_pos (by omega)] | rw [if_neg (by omega), if_neg (by omega)]) dX8_whyNotPart_62
      · skip
        by_cases c_4 : sg = 119
        · skip
          refine n_top (y := nI 119) (congrArg nI c_4) ?_
          refine lv_lookup (off := 44) (tgt := 48) hx hb dX8_whyNotPart_4 (by decide) (by rw [nI_toInt (by decide)]; rfl) (by decide) ?_
          refine lv_aload_n hx hb dX8_whyNotPart_48 rfl (lv_at hl 0 rfl) ?_
          refine lv_aload_n hx hb dX8_whyNotPart_49 rfl (lv_at hl 0 rfl) ?_
          refine va_get (D := G) (ci := 8) (v := .int (Z 0 10)) (C := RX8) (T := TX8) (N := 16) hx hb hts hinX8 hown hK hP 0 rfl rfl 10 (by decide) lk169 (fun _ h9 => h9) rfl dX8_whyNotPart_50 ?_
          refine n_top (y := nI fi) (hfi (by omega)) ?_
          refine lv_aload_n hx hb dX8_whyNotPart_53 rfl (lv_at hl 0 rfl) ?_
          refine va_get (D := G) (ci := 8) (v := .int (Z 0 11)) (C := RX8) (T := TX8) (N := 16) hx hb hts hinX8 hown hK hP 0 rfl rfl 11 (by decide) lk175 (fun _ h9 => h9) rfl dX8_whyNotPart_54 ?_
          refine n_top (y := nI se) (hse (by omega)) ?_
          refine k_roV (As := [.int (nI fi), .int (nI se)]) (rest := []) (wc := oX8 T q Z g) (d := 2) (v := mWy Z fi se) cx (c_X8_whyNotWhistled l G T A q Z g fi se (by omega) (by omega)) (cwV 2 hts gX8_whyNotPart_X8_whyNotWhistled rfl rfl rfl (by decide +kernel) ⟨Nat.le_of_ble_eq_true rfl, Nat.le_of_ble_eq_true rfl⟩) hP hK hE (va_recv hK hP (ci := 8) (q0 := 0) rfl rfl) rfl hl.1 rfl (Nat.le_of_ble_eq_true rfl) dX8_whyNotPart_57 ⟨Nat.le_of_ble_eq_true rfl, Nat.le_of_ble_eq_true rfl⟩ ?_
          subst hQ
          exact e_ro hx hb hr hlocks (by unfold mPy; first | rw [if_pos (by omega)] | rw [if_neg (by omega), if_pos (by omega)] | rw [if_neg (by omega), if_neg (by omega)]) dX8_whyNotPart_60
        · skip
          refine lv_lookup (off := 59) (tgt := 63) hx hb dX8_whyNotPart_4 (by decide) ((lv_osw (k := nI 33) (fun h9 => c_1 (nI_inj (by omega) (by decide) h9)) (nI_toInt (by decide))).trans ((lv_osw (k := nI 107) (fun h9 => c_2 (nI_inj (by omega) (by decide) h9)) (nI_toInt (by decide))).trans ((lv_osw (k := nI 116) (fun h9 => c_3 (nI_inj (by omega) (by decide) h9)) (nI_toInt (by decide))).trans ((lv_osw (k := nI 119) (fun h9 => c_4 (nI_inj (by omega) (by decide) h9)) (nI_toInt (by decide))).trans rfl)))) (by decide) ?_
          refine lv_aload_n hx hb dX8_whyNotPart_63 rfl (lv_at hl 0 rfl) ?_
          refine lv_aload_n hx hb dX8_whyNotPart_64 rfl (lv_at hl 0 rfl) ?_
          refine va_get (D := G) (ci := 8) (v := .int (Z 0 10)) (C := RX8) (T := TX8) (N := 16) hx hb hts hinX8 hown hK hP 0 rfl rfl 10 (by decide) lk169 (fun _ h9 => h9) rfl dX8_whyNotPart_65 ?_
          refine n_top (y := nI fi) (hfi (by omega)) ?_
          refine k_roV (As := [.int (nI fi)]) (rest := []) (wc := oX8 T q Z g) (d := 3) (v := mWT Z fi n) cx (c_X8_whyNotTaught l G T A q Z g fi n (by omega) (by first | assumption | rfl | omega) (by omega)) (cwV 1 hts gX8_whyNotPart_X8_whyNotTaught rfl rfl rfl (by decide +kernel) ⟨Nat.le_of_ble_eq_true rfl, Nat.le_of_ble_eq_true rfl⟩) hP hK hE (va_recv hK hP (ci := 8) (q0 := 0) rfl rfl) rfl hl.1 rfl (Nat.le_of_ble_eq_true rfl) dX8_whyNotPart_68 ⟨Nat.le_of_ble_eq_true rfl, Nat.le_of_ble_eq_true rfl⟩ ?_
          subst hQ
          exact e_ro hx hb hr hlocks (by unfold mPy; first | rw [if_pos (by omega)] | rw [if_neg (by omega), if_pos (by omega)] | rw [if_neg (by omega), if_neg (by omega)]) dX8_whyNotPart_71
set_option maxHeartbeats 4000000 in
set_option maxRecDepth 100000 in
theorem c_X8_doPart (l : Launch) (G : va_G) (T : Nat → ClassId) (sz : Nat) (q : Nat → Nat) (Z : Nat → Nat → Int32) (g : Int64) (sg : Nat) (fi : Nat) (se : Nat) (n : Nat) (hsg : Z 0 9 = nI sg) (hsb : sg < 128) (hfi : ¬ sg = 33 → Z 0 10 = nI fi) (hse : sg = 119 → Z 0 11 = nI se) (hfb : fi < 20) (hf6 : sg = 119 ∨ sg = 116 → fi < 6) (hs20 : se < 20) (hmany : Z 0 13 = nI n) (hn9 : n ≤ 9) : RWi l yX8_doPart wsX8_doPart 6 0 0 G T sz (oX8 T q Z g) [.ref (q 0)] (mDoV Z sg fi n) (oX8 T q (sa Z 2 (mDoF Z sg fi se n)) g) := by
  refine Met.ofW (cc := cX8_doPart) (maxL := 1) (ret := (some .int)) (by decide) rfl ?_
  intro p e s m args below meth c s₁ B hml hv
  obtain ⟨ha, hsz, hP, hK, hD0, hE0⟩ := hv
  have hx := B.exec
  have hb := B.bytes
  have hr := B.returns
  have hlocks := B.notSynchronized
  have hts := atoms_spec (ws := wsX8_doPart) B.pre
  have hown : s.vm.findClass RX8 = some m.cls := findClass_of_methodNamed B.named
  have cx : CallFix p m c cX8_doPart 1 s args wsX8_doPart RX8 := ⟨hx, hb, hml, hown, hts⟩
  subst hsz
  have hD := hD0.self (sz := s.heap.size)
  generalize hAe : va_A (oX8 T q Z g) s.heap.size = A at hD hE0 ⊢
  have hE : gE A s s.heap := hE0
  have hA : ∀ q : Nat, s.heap.size ≤ q → A q := fun q h => by rw [← hAe]; exact Or.inr h
  have hS : va_S A s.heap s.heap [] := va_S.rf
  refine w_entry ha (Nat.le_of_ble_eq_true rfl) (fun ls hl => ?_)
  refine w_q (fun Q0 hQ => ?_)
  have lk178 := hts (.fieldLink RX8 178 "WhistleTunesModel" "sign" "I") (by decide +kernel)
  have hinX8 : ∀ w ∈ wsX80, w ∈ wsX8_doPart := by decide +kernel
  have lk169 := hts (.fieldLink RX8 169 "WhistleTunesModel" "first" "I") (by decide +kernel)
  have lk175 := hts (.fieldLink RX8 175 "WhistleTunesModel" "second" "I") (by decide +kernel)
  have hl : lv_has ls 1 [(0, .ref (q 0))] := hl
  have hP : va_P G vwCl [(q 0, .inr (8, [.int (Z 0 0), .ref (q 2), .ref (q 3), .int (Z 0 3), .ref (q 5), .int (Z 0 5), .ref (q 7), .int (Z 0 7), .int (Z 0 8), .int (Z 0 9), .int (Z 0 10), .int (Z 0 11), .ref (q 13), .int (Z 0 13), .ref (q 15), .long g])), (q 2, .inl (T 0, 267, .inl (Z 2))), (q 3, .inl (T 0, 1602, .inl (Z 3))), (q 5, .inl (T 0, 267, .inl (Z 5))), (q 7, .inl (T 0, 60, .inl (Z 7))), (q 13, .inl (T 0, 8, .inl (Z 13))), (q 15, .inl (T 0, 3, .inl (Z 15)))] s.heap := hP
  have hD : va_D A [(q 0, .inr (8, [.int (Z 0 0), .ref (q 2), .ref (q 3), .int (Z 0 3), .ref (q 5), .int (Z 0 5), .ref (q 7), .int (Z 0 7), .int (Z 0 8), .int (Z 0 9), .int (Z 0 10), .int (Z 0 11), .ref (q 13), .int (Z 0 13), .ref (q 15), .long g])), (q 2, .inl (T 0, 267, .inl (Z 2))), (q 3, .inl (T 0, 1602, .inl (Z 3))), (q 5, .inl (T 0, 267, .inl (Z 5))), (q 7, .inl (T 0, 60, .inl (Z 7))), (q 13, .inl (T 0, 8, .inl (Z 13))), (q 15, .inl (T 0, 3, .inl (Z 15)))] := hD
  skip
  refine w_h (fun H locs hHe hLe => ?_)
  have hP : va_P G vwCl [(q 0, .inr (8, [.int (Z 0 0), .ref (q 2), .ref (q 3), .int (Z 0 3), .ref (q 5), .int (Z 0 5), .ref (q 7), .int (Z 0 7), .int (Z 0 8), .int (Z 0 9), .int (Z 0 10), .int (Z 0 11), .ref (q 13), .int (Z 0 13), .ref (q 15), .long g])), (q 2, .inl (T 0, 267, .inl (Z 2))), (q 3, .inl (T 0, 1602, .inl (Z 3))), (q 5, .inl (T 0, 267, .inl (Z 5))), (q 7, .inl (T 0, 60, .inl (Z 7))), (q 13, .inl (T 0, 8, .inl (Z 13))), (q 15, .inl (T 0, 3, .inl (Z 15)))] H := by rw [hHe]; exact hP
  have hS : va_S A s.heap H locs := by rw [hHe, hLe]; exact hS
  refine lv_aload_n hx hb dX8_doPart_0 rfl (lv_at hl 0 rfl) ?_
  refine va_get (D := G) (ci := 8) (v := .int (Z 0 9)) (C := RX8) (T := TX8) (N := 16) hx hb hts hinX8 hown hK hP 0 rfl rfl 9 (by decide) lk178 (fun _ h9 => h9) rfl dX8_doPart_1 ?_
  refine n_top (y := nI sg) hsg ?_
  by_cases c_1 : sg = 33
  · skip
    refine n_top (y := nI 33) (congrArg nI c_1) ?_
    refine lv_lookup (off := 57) (tgt := 61) hx hb dX8_doPart_4 (by decide) (by rw [nI_toInt (by decide)]; rfl) (by decide) ?_
    refine lv_aload_n hx hb dX8_doPart_61 rfl (lv_at hl 0 rfl) ?_
    refine k_rwV (As := []) (rest := []) (wc := oX8 T q Z g) (wr := []) (w1 := oX8 T q (sa Z 2 (mRiF (Z 2) 6)) g) (d := 0) (mc := 0) (ms := 0) (v := mRiF ((Z 2)) 6 0) (isC := [0, 1, 2, 3, 4, 5, 6]) (isR := []) cx (c_X8_rings l G T H.size q Z g ) (cwV 0 hts gX8_doPart_X8_rings rfl rfl rfl (by decide +kernel) ⟨Nat.le_of_ble_eq_true rfl, Nat.le_of_ble_eq_true rfl⟩) ⟨hP, hD, hS, hA, hE, hK, rfl, rfl, rfl, rfl, by decide⟩ (va_recv hK hP (ci := 8) (q0 := 0) rfl rfl) rfl hl.1 rfl (Nat.le_of_ble_eq_true rfl) dX8_doPart_62 ⟨Nat.le_of_ble_eq_true rfl, Nat.le_of_ble_eq_true rfl⟩ (fun H locs hP hD hS hz => ?_)
    have hP : va_P G vwCl [(q 0, .inr (8, [.int (Z 0 0), .ref (q 2), .ref (q 3), .int (Z 0 3), .ref (q 5), .int (Z 0 5), .ref (q 7), .int (Z 0 7), .int (Z 0 8), .int (Z 0 9), .int (Z 0 10), .int (Z 0 11), .ref (q 13), .int (Z 0 13), .ref (q 15), .long g])), (q 2, .inl (T 0, 267, .inl (mRiF ((Z 2)) 6))), (q 3, .inl (T 0, 1602, .inl (Z 3))), (q 5, .inl (T 0, 267, .inl (Z 5))), (q 7, .inl (T 0, 60, .inl (Z 7))), (q 13, .inl (T 0, 8, .inl (Z 13))), (q 15, .inl (T 0, 3, .inl (Z 15)))] H := hP
    have hD : va_D A [(q 0, .inr (8, [.int (Z 0 0), .ref (q 2), .ref (q 3), .int (Z 0 3), .ref (q 5), .int (Z 0 5), .ref (q 7), .int (Z 0 7), .int (Z 0 8), .int (Z 0 9), .int (Z 0 10), .int (Z 0 11), .ref (q 13), .int (Z 0 13), .ref (q 15), .long g])), (q 2, .inl (T 0, 267, .inl (mRiF ((Z 2)) 6))), (q 3, .inl (T 0, 1602, .inl (Z 3))), (q 5, .inl (T 0, 267, .inl (Z 5))), (q 7, .inl (T 0, 60, .inl (Z 7))), (q 13, .inl (T 0, 8, .inl (Z 13))), (q 15, .inl (T 0, 3, .inl (Z 15)))] := hD
    subst hQ
    have e_2 : (mRiF ((Z 2)) 6) = mDoF Z sg fi se n := (by unfold mDoF; first | rw [if_pos (by omega)] | rw [if_neg (by omega), if_pos (by omega)] | rw [if_neg (by omega), if_neg (by omega), if_pos (by omega)] | rw [if_neg (by omega), if_neg (by omega), if_neg (by omega), if_pos (by omega)] | rw [if_neg (by omega), if_neg (by omega), if_neg (by omega), if_neg (by omega)])
    rw [e_2] at hP hD
    have hP9 : va_P G vwCl (oX8 T q (sa Z 2 (mDoF Z sg fi se n)) g) H := hP
    have hD9 : va_D A (oX8 T q (sa Z 2 (mDoF Z sg fi se n)) g) := hD
    exact e_rwi hx hb hr hlocks hS (by unfold mDoV; first | rw [if_pos (by omega)] | rw [if_neg (by omega), if_pos (by omega)] | rw [if_neg (by omega), if_neg (by omega), if_pos (by omega)] | rw [if_neg (by omega), if_neg (by omega), if_neg (by omega), if_pos (by omega)] | rw [if_neg (by omega), if_neg (by omega), if_neg (by omega), if_neg (by omega)]) hP9 hD9 dX8_doPart_65
  · skip
    by_cases c_3 : sg = 107
    · skip
      refine n_top (y := nI 107) (congrArg nI c_3) ?_
      refine lv_lookup (off := 71) (tgt := 75) hx hb dX8_doPart_4 (by decide) (by rw [nI_toInt (by decide)]; rfl) (by decide) ?_
      refine lv_aload_n hx hb dX8_doPart_75 rfl (lv_at hl 0 rfl) ?_
      refine lv_aload_n hx hb dX8_doPart_76 rfl (lv_at hl 0 rfl) ?_
      refine va_get (D := G) (ci := 8) (v := .int (Z 0 10)) (C := RX8) (T := TX8) (N := 16) hx hb hts hinX8 hown hK hP 0 rfl rfl 10 (by decide) lk169 (fun _ h9 => h9) rfl dX8_doPart_77 ?_
      refine n_top (y := nI fi) (hfi (by omega)) ?_
      refine k_rwV (As := [.int (nI fi)]) (rest := []) (wc := oX8 T q Z g) (wr := []) (w1 := oX8 T q (sa Z 2 (upd (Z 2) 1 (nI fi))) g) (d := 0) (mc := 0) (ms := 0) (v := (Z 2) 1) (isC := [0, 1, 2, 3, 4, 5, 6]) (isR := []) cx (c_X8_changeKey l G T H.size q Z g (nI fi) ) (cwV 1 hts gX8_doPart_X8_changeKey rfl rfl rfl (by decide +kernel) ⟨Nat.le_of_ble_eq_true rfl, Nat.le_of_ble_eq_true rfl⟩) ⟨hP, hD, hS, hA, hE, hK, rfl, rfl, rfl, rfl, by decide⟩ (va_recv hK hP (ci := 8) (q0 := 0) rfl rfl) rfl hl.1 rfl (Nat.le_of_ble_eq_true rfl) dX8_doPart_80 ⟨Nat.le_of_ble_eq_true rfl, Nat.le_of_ble_eq_true rfl⟩ (fun H locs hP hD hS hz => ?_)
      have hP : va_P G vwCl [(q 0, .inr (8, [.int (Z 0 0), .ref (q 2), .ref (q 3), .int (Z 0 3), .ref (q 5), .int (Z 0 5), .ref (q 7), .int (Z 0 7), .int (Z 0 8), .int (Z 0 9), .int (Z 0 10), .int (Z 0 11), .ref (q 13), .int (Z 0 13), .ref (q 15), .long g])), (q 2, .inl (T 0, 267, .inl (upd ((Z 2)) 1 (nI fi)))), (q 3, .inl (T 0, 1602, .inl (Z 3))), (q 5, .inl (T 0, 267, .inl (Z 5))), (q 7, .inl (T 0, 60, .inl (Z 7))), (q 13, .inl (T 0, 8, .inl (Z 13))), (q 15, .inl (T 0, 3, .inl (Z 15)))] H := hP
      have hD : va_D A [(q 0, .inr (8, [.int (Z 0 0), .ref (q 2), .ref (q 3), .int (Z 0 3), .ref (q 5), .int (Z 0 5), .ref (q 7), .int (Z 0 7), .int (Z 0 8), .int (Z 0 9), .int (Z 0 10), .int (Z 0 11), .ref (q 13), .int (Z 0 13), .ref (q 15), .long g])), (q 2, .inl (T 0, 267, .inl (upd ((Z 2)) 1 (nI fi)))), (q 3, .inl (T 0, 1602, .inl (Z 3))), (q 5, .inl (T 0, 267, .inl (Z 5))), (q 7, .inl (T 0, 60, .inl (Z 7))), (q 13, .inl (T 0, 8, .inl (Z 13))), (q 15, .inl (T 0, 3, .inl (Z 15)))] := hD
      subst hQ
      have e_4 : (upd ((Z 2)) 1 (nI fi)) = mDoF Z sg fi se n := (by unfold mDoF; first | rw [if_pos (by omega)] | rw [if_neg (by omega), if_pos (by omega)] | rw [if_neg (by omega), if_neg (by omega), if_pos (by omega)] | rw [if_neg (by omega), if_neg (by omega), if_neg (by omega), if_pos (by omega)] | rw [if_neg (by omega), if_neg (by omega), if_neg (by omega), if_neg (by omega)])
      rw [e_4] at hP hD
      have hP9 : va_P G vwCl (oX8 T q (sa Z 2 (mDoF Z sg fi se n)) g) H := hP
      have hD9 : va_D A (oX8 T q (sa Z 2 (mDoF Z sg fi se n)) g) := hD
      exact e_rwi hx hb hr hlocks hS (by unfold mDoV; first | rw [if_pos (by omega)] | rw [if_neg (by omega), if_pos (by omega)] | rw [if_neg (by omega), if_neg (by omega), if_pos (by omega)] | rw [if_neg (by omega), if_neg (by omega), if_neg (by omega), if_pos (by omega)] | rw [if_neg (by omega), if_neg (by omega), if_neg (by omega), if_neg (by omega)]) hP9 hD9 dX8_doPart_83
    · skip
      by_cases c_5 : sg = 116
      · skip
        refine n_top (y := nI 116) (congrArg nI c_5) ?_
        refine lv_lookup (off := 62) (tgt := 66) hx hb dX8_doPart_4 (by decide) (by rw [nI_toInt (by decide)]; rfl) (by decide) ?_
        refine lv_aload_n hx hb dX8_doPart_66 rfl (lv_at hl 0 rfl) ?_
        refine lv_aload_n hx hb dX8_doPart_67 rfl (lv_at hl 0 rfl) ?_
        refine va_get (D := G) (ci := 8) (v := .int (Z 0 10)) (C := RX8) (T := TX8) (N := 16) hx hb hts hinX8 hown hK hP 0 rfl rfl 10 (by decide) lk169 (fun _ h9 => h9) rfl dX8_doPart_68 ?_
        refine n_top (y := nI fi) (hfi (by omega)) ?_
        refine k_rwV (As := [.int (nI fi)]) (rest := []) (wc := oX8 T q Z g) (wr := []) (w1 := oX8 T q (sa Z 2 (upd (Z 2) (14 + 5 * fi) (Z 2 1))) g) (d := 1) (mc := 0) (ms := 0) (v := (Z 2) (14 + 5 * fi)) (isC := [0, 1, 2, 3, 4, 5, 6]) (isR := []) cx (c_X8_tells l G T H.size q Z g fi (by omega)) (cwV 1 hts gX8_doPart_X8_tells rfl rfl rfl (by decide +kernel) ⟨Nat.le_of_ble_eq_true rfl, Nat.le_of_ble_eq_true rfl⟩) ⟨hP, hD, hS, hA, hE, hK, rfl, rfl, rfl, rfl, by decide⟩ (va_recv hK hP (ci := 8) (q0 := 0) rfl rfl) rfl hl.1 rfl (Nat.le_of_ble_eq_true rfl) dX8_doPart_71 ⟨Nat.le_of_ble_eq_true rfl, Nat.le_of_ble_eq_true rfl⟩ (fun H locs hP hD hS hz => ?_)
        have hP : va_P G vwCl [(q 0, .inr (8, [.int (Z 0 0), .ref (q 2), .ref (q 3), .int (Z 0 3), .ref (q 5), .int (Z 0 5), .ref (q 7), .int (Z 0 7), .int (Z 0 8), .int (Z 0 9), .int (Z 0 10), .int (Z 0 11), .ref (q 13), .int (Z 0 13), .ref (q 15), .long g])), (q 2, .inl (T 0, 267, .inl (upd ((Z 2)) (14 + 5 * fi) ((Z 2) 1)))), (q 3, .inl (T 0, 1602, .inl (Z 3))), (q 5, .inl (T 0, 267, .inl (Z 5))), (q 7, .inl (T 0, 60, .inl (Z 7))), (q 13, .inl (T 0, 8, .inl (Z 13))), (q 15, .inl (T 0, 3, .inl (Z 15)))] H := hP
        have hD : va_D A [(q 0, .inr (8, [.int (Z 0 0), .ref (q 2), .ref (q 3), .int (Z 0 3), .ref (q 5), .int (Z 0 5), .ref (q 7), .int (Z 0 7), .int (Z 0 8), .int (Z 0 9), .int (Z 0 10), .int (Z 0 11), .ref (q 13), .int (Z 0 13), .ref (q 15), .long g])), (q 2, .inl (T 0, 267, .inl (upd ((Z 2)) (14 + 5 * fi) ((Z 2) 1)))), (q 3, .inl (T 0, 1602, .inl (Z 3))), (q 5, .inl (T 0, 267, .inl (Z 5))), (q 7, .inl (T 0, 60, .inl (Z 7))), (q 13, .inl (T 0, 8, .inl (Z 13))), (q 15, .inl (T 0, 3, .inl (Z 15)))] := hD
        subst hQ
        have e_6 : (upd ((Z 2)) (14 + 5 * fi) ((Z 2) 1)) = mDoF Z sg fi se n := (by unfold mDoF; first | rw [if_pos (by omega)] | rw [if_neg (by omega), if_pos (by omega)] | rw [if_neg (by omega), if_neg (by omega), if_pos (by omega)] | rw [if_neg (by omega), if_neg (by omega), if_neg (by omega), if_pos (by omega)] | rw [if_neg (by omega), if_neg (by omega), if_neg (by omega), if_neg (by omega)])
        rw [e_6] at hP hD
        have hP9 : va_P G vwCl (oX8 T q (sa Z 2 (mDoF Z sg fi se n)) g) H := hP
        have hD9 : va_D A (oX8 T q (sa Z 2 (mDoF Z sg fi se n)) g) := hD
        exact e_rwi hx hb hr hlocks hS (by unfold mDoV; first | rw [if_pos (by omega)] | rw [if_neg (by omega), if_pos (by omega)] | rw [if_neg (by omega), if_neg (by omega), if_pos (by omega)] | rw [if_neg (by omega), if_neg (by omega), if_neg (by omega), if_pos (by omega)] | rw [if_neg (by omega), if_neg (by omega), if_neg (by omega), if_neg (by omega)]) hP9 hD9 dX8_doPart_74
      · skip
        by_cases c_7 : sg = 119
        · skip
          refine n_top (y := nI 119) (congrArg nI c_7) ?_
          refine lv_lookup (off := 44) (tgt := 48) hx hb dX8_doPart_4 (by decide) (by rw [nI_toInt (by decide)]; rfl) (by decide) ?_
          refine lv_aload_n hx hb dX8_doPart_48 rfl (lv_at hl 0 rfl) ?_
          refine lv_aload_n hx hb dX8_doPart_49 rfl (lv_at hl 0 rfl) ?_
          refine va_get (D := G) (ci := 8) (v := .int (Z 0 10)) (C := RX8) (T := TX8) (N := 16) hx hb hts hinX8 hown hK hP 0 rfl rfl 10 (by decide) lk169 (fun _ h9 => h9) rfl dX8_doPart_50 ?_
          refine n_top (y := nI fi) (hfi (by omega)) ?_
          refine lv_aload_n hx hb dX8_doPart_53 rfl (lv_at hl 0 rfl) ?_
          refine va_get (D := G) (ci := 8) (v := .int (Z 0 11)) (C := RX8) (T := TX8) (N := 16) hx hb hts hinX8 hown hK hP 0 rfl rfl 11 (by decide) lk175 (fun _ h9 => h9) rfl dX8_doPart_54 ?_
          refine n_top (y := nI se) (hse (by omega)) ?_
          refine k_rwV (As := [.int (nI fi), .int (nI se)]) (rest := []) (wc := oX8 T q Z g) (wr := []) (w1 := oX8 T q (sa Z 2 (mWhF Z fi se)) g) (d := 5) (mc := 0) (ms := 0) (v := mOn (mKn Z fi 6) 6) (isC := [0, 1, 2, 3, 4, 5, 6]) (isR := []) cx (c_X8_whistles l G T H.size q Z g fi se (by omega) (by omega)) (cwV 2 hts gX8_doPart_X8_whistles rfl rfl rfl (by decide +kernel) ⟨Nat.le_of_ble_eq_true rfl, Nat.le_of_ble_eq_true rfl⟩) ⟨hP, hD, hS, hA, hE, hK, rfl, rfl, rfl, rfl, by decide⟩ (va_recv hK hP (ci := 8) (q0 := 0) rfl rfl) rfl hl.1 rfl (Nat.le_of_ble_eq_true rfl) dX8_doPart_57 ⟨Nat.le_of_ble_eq_true rfl, Nat.le_of_ble_eq_true rfl⟩ (fun H locs hP hD hS hz => ?_)
          have hP : va_P G vwCl [(q 0, .inr (8, [.int (Z 0 0), .ref (q 2), .ref (q 3), .int (Z 0 3), .ref (q 5), .int (Z 0 5), .ref (q 7), .int (Z 0 7), .int (Z 0 8), .int (Z 0 9), .int (Z 0 10), .int (Z 0 11), .ref (q 13), .int (Z 0 13), .ref (q 15), .long g])), (q 2, .inl (T 0, 267, .inl (mWhF Z fi se))), (q 3, .inl (T 0, 1602, .inl (Z 3))), (q 5, .inl (T 0, 267, .inl (Z 5))), (q 7, .inl (T 0, 60, .inl (Z 7))), (q 13, .inl (T 0, 8, .inl (Z 13))), (q 15, .inl (T 0, 3, .inl (Z 15)))] H := hP
          have hD : va_D A [(q 0, .inr (8, [.int (Z 0 0), .ref (q 2), .ref (q 3), .int (Z 0 3), .ref (q 5), .int (Z 0 5), .ref (q 7), .int (Z 0 7), .int (Z 0 8), .int (Z 0 9), .int (Z 0 10), .int (Z 0 11), .ref (q 13), .int (Z 0 13), .ref (q 15), .long g])), (q 2, .inl (T 0, 267, .inl (mWhF Z fi se))), (q 3, .inl (T 0, 1602, .inl (Z 3))), (q 5, .inl (T 0, 267, .inl (Z 5))), (q 7, .inl (T 0, 60, .inl (Z 7))), (q 13, .inl (T 0, 8, .inl (Z 13))), (q 15, .inl (T 0, 3, .inl (Z 15)))] := hD
          subst hQ
          have e_8 : (mWhF Z fi se) = mDoF Z sg fi se n := (by unfold mDoF; first | rw [if_pos (by omega)] | rw [if_neg (by omega), if_pos (by omega)] | rw [if_neg (by omega), if_neg (by omega), if_pos (by omega)] | rw [if_neg (by omega), if_neg (by omega), if_neg (by omega), if_pos (by omega)] | rw [if_neg (by omega), if_neg (by omega), if_neg (by omega), if_neg (by omega)])
          rw [e_8] at hP hD
          have hP9 : va_P G vwCl (oX8 T q (sa Z 2 (mDoF Z sg fi se n)) g) H := hP
          have hD9 : va_D A (oX8 T q (sa Z 2 (mDoF Z sg fi se n)) g) := hD
          exact e_rwi hx hb hr hlocks hS (by unfold mDoV; first | rw [if_pos (by omega)] | rw [if_neg (by omega), if_pos (by omega)] | rw [if_neg (by omega), if_neg (by omega), if_pos (by omega)] | rw [if_neg (by omega), if_neg (by omega), if_neg (by omega), if_pos (by omega)] | rw [if_neg (by omega), if_neg (by omega), if_neg (by omega), if_neg (by omega)]) hP9 hD9 dX8_doPart_60
        · skip
          refine lv_lookup (off := 80) (tgt := 84) hx hb dX8_doPart_4 (by decide) ((lv_osw (k := nI 33) (fun h9 => c_1 (nI_inj (by omega) (by decide) h9)) (nI_toInt (by decide))).trans ((lv_osw (k := nI 107) (fun h9 => c_3 (nI_inj (by omega) (by decide) h9)) (nI_toInt (by decide))).trans ((lv_osw (k := nI 116) (fun h9 => c_5 (nI_inj (by omega) (by decide) h9)) (nI_toInt (by decide))).trans ((lv_osw (k := nI 119) (fun h9 => c_7 (nI_inj (by omega) (by decide) h9)) (nI_toInt (by decide))).trans rfl)))) (by decide) ?_
          refine lv_aload_n hx hb dX8_doPart_84 rfl (lv_at hl 0 rfl) ?_
          refine lv_aload_n hx hb dX8_doPart_85 rfl (lv_at hl 0 rfl) ?_
          refine va_get (D := G) (ci := 8) (v := .int (Z 0 10)) (C := RX8) (T := TX8) (N := 16) hx hb hts hinX8 hown hK hP 0 rfl rfl 10 (by decide) lk169 (fun _ h9 => h9) rfl dX8_doPart_86 ?_
          refine n_top (y := nI fi) (hfi (by omega)) ?_
          refine k_rwV (As := [.int (nI fi)]) (rest := []) (wc := oX8 T q Z g) (wr := []) (w1 := oX8 T q (sa Z 2 (mTcF (Z 2) (Z 13) fi n 8)) g) (d := 1) (mc := 0) (ms := 0) (v := nI n) (isC := [0, 1, 2, 3, 4, 5, 6]) (isR := []) cx (c_X8_teaches l G T H.size q Z g fi n (by omega) (by first | assumption | rfl | omega) (by omega)) (cwV 1 hts gX8_doPart_X8_teaches rfl rfl rfl (by decide +kernel) ⟨Nat.le_of_ble_eq_true rfl, Nat.le_of_ble_eq_true rfl⟩) ⟨hP, hD, hS, hA, hE, hK, rfl, rfl, rfl, rfl, by decide⟩ (va_recv hK hP (ci := 8) (q0 := 0) rfl rfl) rfl hl.1 rfl (Nat.le_of_ble_eq_true rfl) dX8_doPart_89 ⟨Nat.le_of_ble_eq_true rfl, Nat.le_of_ble_eq_true rfl⟩ (fun H locs hP hD hS hz => ?_)
          have hP : va_P G vwCl [(q 0, .inr (8, [.int (Z 0 0), .ref (q 2), .ref (q 3), .int (Z 0 3), .ref (q 5), .int (Z 0 5), .ref (q 7), .int (Z 0 7), .int (Z 0 8), .int (Z 0 9), .int (Z 0 10), .int (Z 0 11), .ref (q 13), .int (Z 0 13), .ref (q 15), .long g])), (q 2, .inl (T 0, 267, .inl (mTcF ((Z 2)) ((Z 13)) fi n 8))), (q 3, .inl (T 0, 1602, .inl (Z 3))), (q 5, .inl (T 0, 267, .inl (Z 5))), (q 7, .inl (T 0, 60, .inl (Z 7))), (q 13, .inl (T 0, 8, .inl (Z 13))), (q 15, .inl (T 0, 3, .inl (Z 15)))] H := hP
          have hD : va_D A [(q 0, .inr (8, [.int (Z 0 0), .ref (q 2), .ref (q 3), .int (Z 0 3), .ref (q 5), .int (Z 0 5), .ref (q 7), .int (Z 0 7), .int (Z 0 8), .int (Z 0 9), .int (Z 0 10), .int (Z 0 11), .ref (q 13), .int (Z 0 13), .ref (q 15), .long g])), (q 2, .inl (T 0, 267, .inl (mTcF ((Z 2)) ((Z 13)) fi n 8))), (q 3, .inl (T 0, 1602, .inl (Z 3))), (q 5, .inl (T 0, 267, .inl (Z 5))), (q 7, .inl (T 0, 60, .inl (Z 7))), (q 13, .inl (T 0, 8, .inl (Z 13))), (q 15, .inl (T 0, 3, .inl (Z 15)))] := hD
          subst hQ
          have e_9 : (mTcF ((Z 2)) ((Z 13)) fi n 8) = mDoF Z sg fi se n := (by unfold mDoF; first | rw [if_pos (by omega)] | rw [if_neg (by omega), if_pos (by omega)] | rw [if_neg (by omega), if_neg (by omega), if_pos (by omega)] | rw [if_neg (by omega), if_neg (by omega), if_neg (by omega), if_pos (by omega)] | rw [if_neg (by omega), if_neg (by omega), if_neg (by omega), if_neg (by omega)])
          rw [e_9] at hP hD
          have hP9 : va_P G vwCl (oX8 T q (sa Z 2 (mDoF Z sg fi se n)) g) H := hP
          have hD9 : va_D A (oX8 T q (sa Z 2 (mDoF Z sg fi se n)) g) := hD
          exact e_rwi hx hb hr hlocks hS (by unfold mDoV; first | rw [if_pos (by omega)] | rw [if_neg (by omega), if_pos (by omega)] | rw [if_neg (by omega), if_neg (by omega), if_pos (by omega)] | rw [if_neg (by omega), if_neg (by omega), if_neg (by omega), if_pos (by omega)] | rw [if_neg (by omega), if_neg (by omega), if_neg (by omega), if_neg (by omega)]) hP9 hD9 dX8_doPart_92
set_option maxHeartbeats 4000000 in
set_option maxRecDepth 100000 in
theorem c_X8_nodes (l : Launch) (G : va_G) (T : Nat → ClassId) (A : Nat → Prop) (q : Nat → Nat) (Z : Nat → Nat → Int32) (g : Int64) (ln : Nat → Nat) (hln : ∀ i : Nat, i < 20 → Z 2 (47 + 11 * i) = nI (ln i)) (hln8 : ∀ i : Nat, i < 20 → ln i ≤ 8) : RO l yX8_nodes wsX8_nodes 3 G T A (oX8 T q Z g) [.ref (q 0)] (nI (mNd Z ln 20)) := by
  refine Met.ofW (cc := cX8_nodes) (maxL := 6) (ret := (some .int)) (by decide) rfl ?_
  intro p e s m args below meth c s₁ B hml hv
  obtain ⟨ha, hP, hK, hE⟩ := hv
  have hx := B.exec
  have hb := B.bytes
  have hr := B.returns
  have hlocks := B.notSynchronized
  have hts := atoms_spec (ws := wsX8_nodes) B.pre
  have hown : s.vm.findClass RX8 = some m.cls := findClass_of_methodNamed B.named
  have cx : CallFix p m c cX8_nodes 6 s args wsX8_nodes RX8 := ⟨hx, hb, hml, hown, hts⟩
  refine w_entry ha (Nat.le_of_ble_eq_true rfl) (fun ls hl => ?_)
  refine w_q (fun Q0 hQ => ?_)
  have hl : lv_has ls 6 [(0, .ref (q 0))] := hl
  have hP : va_P G vwCl [(q 0, .inr (8, [.int (Z 0 0), .ref (q 2), .ref (q 3), .int (Z 0 3), .ref (q 5), .int (Z 0 5), .ref (q 7), .int (Z 0 7), .int (Z 0 8), .int (Z 0 9), .int (Z 0 10), .int (Z 0 11), .ref (q 13), .int (Z 0 13), .ref (q 15), .long g])), (q 2, .inl (T 0, 267, .inl (Z 2))), (q 3, .inl (T 0, 1602, .inl (Z 3))), (q 5, .inl (T 0, 267, .inl (Z 5))), (q 7, .inl (T 0, 60, .inl (Z 7))), (q 13, .inl (T 0, 8, .inl (Z 13))), (q 15, .inl (T 0, 3, .inl (Z 15)))] s.heap := hP
  refine n_iconst hx hb 0 dX8_nodes_0 (by decide) ?_
  refine lv_istore_n (lv' := [(1, .int (nI 0)), (0, .ref (q 0))]) hx hb dX8_nodes_1 rfl hl (by decide) rfl (fun ls hl => ?_)
  refine n_iconst hx hb 0 dX8_nodes_2 (by decide) ?_
  refine lv_istore_n (lv' := [(2, .int (nI 0)), (1, .int (nI 0)), (0, .ref (q 0))]) hx hb dX8_nodes_3 rfl hl (by decide) rfl (fun ls hl => ?_)
  have L4 : ∀ (n9 k : Nat) (hk1 : k ≤ 20) (hk2 : 20 - k < n9) (x2 : Int32) (x1 : Int32) (hx2 : x2 = nI k) (hx1 : x1 = nI (mNd Z ln k)) (ls : Array Slot) (hl : lv_has ls 6 [(2, .int x2), (1, .int x1), (0, .ref (q 0))]), W p l e (headSpec wsX8_nodes (rmD 3 0 0)).room s m args below meth c s.heap [] 0 0 Q0 (F0 m 4 ls []) := by
    intro n9
    induction n9 with
    | zero => intros; omega
    | succ n9 ih4 =>
      intro k hk1 hk2 x2 x1 hx2 hx1 ls hl
      subst hx2 hx1
      refine lv_iload_n hx hb dX8_nodes_4 rfl (lv_at hl 0 rfl) ?_
      refine lv_bipush (v := nI 20) hx hb dX8_nodes_5 (by decide) ?_
      refine n_icmp_ge (a := k) (b := 20) (tgt := 88) hx hb (by omega) (by decide) dX8_nodes_7 (by decide) (fun c_1 => ?_) (fun c_2 => ?_)
      · skip
        refine lv_iload_n hx hb dX8_nodes_88 rfl (lv_at hl 1 rfl) ?_
        subst hQ
        exact e_ro hx hb hr hlocks (by obtain rfl : k = 20 := (by omega); rfl) dX8_nodes_89
      · skip
        refine n_iconst hx hb 1 dX8_nodes_10 (by decide) ?_
        refine lv_istore_n (lv' := [(3, .int (nI 1)), (2, .int (nI k)), (1, .int (nI (mNd Z ln k))), (0, .ref (q 0))]) hx hb dX8_nodes_11 rfl hl (by decide) rfl (fun ls hl => ?_)
        have L12_i_3 : ∀ (n9 j : Nat) (hk1 : j ≤ ln k) (hk2 : ln k - j < n9) (x3 : Int32) (x1 : Int32) (hx3 : x3 = nI (j + 1)) (hx1 : x1 = nI (mNd1 Z k (mNd Z ln k) j)) (ls : Array Slot) (hl : lv_has ls 6 [(3, .int x3), (2, .int (nI k)), (1, .int x1), (0, .ref (q 0))]), W p l e (headSpec wsX8_nodes (rmD 3 0 0)).room s m args below meth c s.heap [] 0 0 Q0 (F0 m 12 ls []) := by
          intro n9
          induction n9 with
          | zero => intros; omega
          | succ n9 ih12 =>
            intro j hk1 hk2 x3 x1 hx3 hx1 ls hl
            subst hx3 hx1
            have hl8 := hln8 k (by omega)
            refine lv_iload_n hx hb dX8_nodes_12 rfl (lv_at hl 0 rfl) ?_
            refine lv_aload_n hx hb dX8_nodes_13 rfl (lv_at hl 3 rfl) ?_
            refine lv_iload_n hx hb dX8_nodes_14 rfl (lv_at hl 1 rfl) ?_
            refine n_iconst hx hb 0 dX8_nodes_15 (by decide) ?_
            refine k_roV (As := [.int (nI k), .int (nI 0)]) (rest := [.int (nI (j + 1))]) (wc := oX8 T q Z g) (d := 0) (v := (Z 2) (47 + 11 * k)) cx (c_X8_ofMessage l G T A q Z g k 0 (by omega) (by omega)) (cwV 2 hts gX8_nodes_X8_ofMessage rfl rfl rfl (by decide +kernel) ⟨Nat.le_of_ble_eq_true rfl, Nat.le_of_ble_eq_true rfl⟩) hP hK hE (va_recv hK hP (ci := 8) (q0 := 0) rfl rfl) rfl hl.1 rfl (Nat.le_of_ble_eq_true rfl) dX8_nodes_16 ⟨Nat.le_of_ble_eq_true rfl, Nat.le_of_ble_eq_true rfl⟩ ?_
            refine n_top (y := nI (ln k)) (hln k (by omega)) ?_
            refine n_icmp_gt (a := j + 1) (b := ln k) (tgt := 82) hx hb (by omega) (by omega) dX8_nodes_19 (by decide) (fun c_4 => ?_) (fun c_5 => ?_)
            · skip
              refine lv_iinc (v := nI (k + 1)) (lv' := [(2, .int (nI (k + 1))), (3, .int (nI (j + 1))), (1, .int (nI (mNd1 Z k (mNd Z ln k) j))), (0, .ref (q 0))]) hx hb dX8_nodes_82 hl (k := 1) rfl (n_inc k 1 rfl) (by decide) rfl (fun ls hl => ?_)
              refine lv_goto (tgt := 4) hx hb dX8_nodes_85 (by decide) ?_
              have e_6 : (nI (mNd1 Z k (mNd Z ln k) j)) = nI (mNd Z ln (k + 1)) := (by have hjl : j = ln k := (by omega); rw [hjl]; rfl)
              exact ih4 (k + 1) (by omega) (by omega) _ _ rfl e_6 _ (lv_sub hl [0, 2, 3] rfl)
            · skip
              refine n_iconst hx hb 1 dX8_nodes_22 (by decide) ?_
              refine lv_istore (lv' := [(4, .int (nI 1)), (3, .int (nI (j + 1))), (2, .int (nI k)), (1, .int (nI (mNd1 Z k (mNd Z ln k) j))), (0, .ref (q 0))]) hx hb dX8_nodes_23 hl (by decide) rfl (fun ls hl => ?_)
              refine n_iconst hx hb 0 dX8_nodes_25 (by decide) ?_
              refine lv_istore (lv' := [(5, .int (nI 0)), (4, .int (nI 1)), (3, .int (nI (j + 1))), (2, .int (nI k)), (1, .int (nI (mNd1 Z k (mNd Z ln k) j))), (0, .ref (q 0))]) hx hb dX8_nodes_26 hl (by decide) rfl (fun ls hl => ?_)
              have L28_i_7 : ∀ (n9 i : Nat) (hk1 : i ≤ k) (hk2 : k - i < n9) (x5 : Int32) (x4 : Int32) (hx5 : x5 = nI i) (hx4 : x4 = bI (mNw Z k (j + 1) i)) (ls : Array Slot) (hl : lv_has ls 6 [(5, .int x5), (4, .int x4), (3, .int (nI (j + 1))), (2, .int (nI k)), (1, .int (nI (mNd1 Z k (mNd Z ln k) j))), (0, .ref (q 0))]), W p l e (headSpec wsX8_nodes (rmD 3 0 0)).room s m args below meth c s.heap [] 0 0 Q0 (F0 m 28 ls []) := by
                intro n9
                induction n9 with
                | zero => intros; omega
                | succ n9 ih28 =>
                  intro i hk1 hk2 x5 x4 hx5 hx4 ls hl
                  subst hx5 hx4
                  refine lv_iload hx hb dX8_nodes_28 (lv_at hl 0 rfl) ?_
                  refine lv_iload_n hx hb dX8_nodes_30 rfl (lv_at hl 3 rfl) ?_
                  refine n_icmp_ge (a := i) (b := k) (tgt := 63) hx hb (by omega) (by omega) dX8_nodes_31 (by decide) (fun c_8 => ?_) (fun c_9 => ?_)
                  · skip
                    refine lv_iload_n hx hb dX8_nodes_63 rfl (lv_at hl 4 rfl) ?_
                    refine lv_iload hx hb dX8_nodes_64 (lv_at hl 1 rfl) ?_
                    have J_10 : ∀ y9 : Int32, y9 = (nI (if mNw Z k (j + 1) k then 1 else 0)) → W p l e (headSpec wsX8_nodes (rmD 3 0 0)).room s m args below meth c s.heap [] 0 0 Q0 (F0 m 74 ls (.int y9 :: .int (nI (mNd1 Z k (mNd Z ln k) j)) :: [])) := by
                      intro y9 hy9
                      subst hy9
                      refine n_iadd (a := mNd1 Z k (mNd Z ln k) j) (b := (if mNw Z k (j + 1) k then 1 else 0)) hx hb dX8_nodes_74 ?_
                      refine lv_istore_n (lv' := [(1, .int (nI (mNd1 Z k (mNd Z ln k) j + ((if mNw Z k (j + 1) k then 1 else 0))))), (5, .int (nI i)), (4, .int (bI (mNw Z k (j + 1) i))), (3, .int (nI (j + 1))), (2, .int (nI k)), (0, .ref (q 0))]) hx hb dX8_nodes_75 rfl hl (by decide) rfl (fun ls hl => ?_)
                      refine lv_iinc (v := nI (j + 1 + 1)) (lv' := [(3, .int (nI (j + 1 + 1))), (1, .int (nI (mNd1 Z k (mNd Z ln k) j + ((if mNw Z k (j + 1) k then 1 else 0))))), (5, .int (nI i)), (4, .int (bI (mNw Z k (j + 1) i))), (2, .int (nI k)), (0, .ref (q 0))]) hx hb dX8_nodes_76 hl (k := 3) rfl (n_inc (j + 1) 1 rfl) (by decide) rfl (fun ls hl => ?_)
                      refine lv_goto (tgt := 12) hx hb dX8_nodes_79 (by decide) ?_
                      have e_11 : (nI (j + 1 + 1)) = nI ((j + 1) + 1) := (by first | rfl | simp [bI, c_2, c_5, c_8])
                      have e_12 : (nI (mNd1 Z k (mNd Z ln k) j + ((if mNw Z k (j + 1) k then 1 else 0)))) = nI (mNd1 Z k (mNd Z ln k) (j + 1)) := (by first | rfl | simp [bI, c_2, c_5, c_8])
                      exact ih12 (j + 1) (by omega) (by omega) _ _ e_11 e_12 _ (lv_sub hl [0, 4, 1, 5] rfl)
                    refine b_if_eq (b := mNw Z k (j + 1) i) (tgt := 73) hx hb dX8_nodes_66 (by decide) (fun c_13 => ?_) (fun c_14 => ?_)
                    · skip
                      refine n_iconst hx hb 0 dX8_nodes_73 (by decide) ?_
                      exact J_10 _ (by have hik : i = k := (by omega); have h9 := c_13; rw [hik] at h9; rw [h9]; rfl)
                    · skip
                      refine n_iconst hx hb 1 dX8_nodes_69 (by decide) ?_
                      refine lv_goto (tgt := 74) hx hb dX8_nodes_70 (by decide) ?_
                      exact J_10 _ (by have hik : i = k := (by omega); have h9 := c_14; rw [hik] at h9; rw [h9]; rfl)
                  · skip
                    refine lv_iload hx hb dX8_nodes_34 (lv_at hl 1 rfl) ?_
                    have J_15 : ∀ y9 : Int32, y9 = (bI (mNw Z k (j + 1) (i + 1))) → W p l e (headSpec wsX8_nodes (rmD 3 0 0)).room s m args below meth c s.heap [] 0 0 Q0 (F0 m 55 ls (.int y9 :: [])) := by
                      intro y9 hy9
                      subst hy9
                      refine lv_istore (lv' := [(4, .int (bI (mNw Z k (j + 1) (i + 1)))), (5, .int (nI i)), (3, .int (nI (j + 1))), (2, .int (nI k)), (1, .int (nI (mNd1 Z k (mNd Z ln k) j))), (0, .ref (q 0))]) hx hb dX8_nodes_55 hl (by decide) rfl (fun ls hl => ?_)
                      refine lv_iinc (v := nI (i + 1)) (lv' := [(5, .int (nI (i + 1))), (4, .int (bI (mNw Z k (j + 1) (i + 1)))), (3, .int (nI (j + 1))), (2, .int (nI k)), (1, .int (nI (mNd1 Z k (mNd Z ln k) j))), (0, .ref (q 0))]) hx hb dX8_nodes_57 hl (k := 1) rfl (n_inc i 1 rfl) (by decide) rfl (fun ls hl => ?_)
                      refine lv_goto (tgt := 28) hx hb dX8_nodes_60 (by decide) ?_
                      exact ih28 (i + 1) (by omega) (by omega) _ _ rfl rfl _ (lv_sub hl [0, 1, 2, 3, 4, 5] rfl)
                    refine b_if_eq (b := mNw Z k (j + 1) i) (tgt := 54) hx hb dX8_nodes_36 (by decide) (fun c_16 => ?_) (fun c_17 => ?_)
                    · skip
                      refine n_iconst hx hb 0 dX8_nodes_54 (by decide) ?_
                      exact J_15 _ (by simp [mNw, bI, c_2, c_5, c_9, c_16])
                    · skip
                      refine lv_aload_n hx hb dX8_nodes_39 rfl (lv_at hl 5 rfl) ?_
                      refine lv_iload_n hx hb dX8_nodes_40 rfl (lv_at hl 3 rfl) ?_
                      refine lv_iload hx hb dX8_nodes_41 (lv_at hl 0 rfl) ?_
                      refine lv_iload_n hx hb dX8_nodes_43 rfl (lv_at hl 2 rfl) ?_
                      refine k_roV (As := [.int (nI k), .int (nI i), .int (nI (j + 1))]) (rest := []) (wc := oX8 T q Z g) (d := 2) (v := bI (mBA Z k i (j + 1) (j + 1))) cx (c_X8_beginsAlike l G T A q Z g k i (j + 1) (by omega) (by omega) (by omega)) (cwV 3 hts gX8_nodes_X8_beginsAlike rfl rfl rfl (by decide +kernel) ⟨Nat.le_of_ble_eq_true rfl, Nat.le_of_ble_eq_true rfl⟩) hP hK hE (va_recv hK hP (ci := 8) (q0 := 0) rfl rfl) rfl hl.1 rfl (Nat.le_of_ble_eq_true rfl) dX8_nodes_44 ⟨Nat.le_of_ble_eq_true rfl, Nat.le_of_ble_eq_true rfl⟩ ?_
                      refine b_if_ne (b := mBA Z k i (j + 1) (j + 1)) (tgt := 54) hx hb dX8_nodes_47 (by decide) (fun c_18 => ?_) (fun c_19 => ?_)
                      · skip
                        refine n_iconst hx hb 0 dX8_nodes_54 (by decide) ?_
                        exact J_15 _ (by simp [mNw, bI, c_2, c_5, c_9, c_17, c_18])
                      · skip
                        refine n_iconst hx hb 1 dX8_nodes_50 (by decide) ?_
                        refine lv_goto (tgt := 55) hx hb dX8_nodes_51 (by decide) ?_
                        exact J_15 _ (by simp [mNw, bI, c_2, c_5, c_9, c_17, c_19])
              exact L28_i_7 (k + 1) 0 (by omega) (by omega) _ _ rfl rfl _ (lv_sub hl [0, 1, 2, 3, 4, 5] rfl)
        exact L12_i_3 (ln k + 1) 0 (by omega) (by omega) _ _ rfl rfl _ (lv_sub hl [0, 1, 2, 3] rfl)
  exact L4 (20 + 1) 0 (by omega) (by omega) _ _ rfl rfl _ (lv_sub hl [0, 1, 2] rfl)
