/-! WhistleTunes: the parts of an evening (printed by wip/whole/s42.py) -/
theorem pBt_V {x : Int32} {n : Nat} (h : pBt x n = true) (hn : n < 2 ^ 31) : x = nI (nOf x) ∧ nOf x < n := by
  obtain ⟨k, hk, rfl⟩ := pBt_N h hn
  rw [nOf_n (by omega)]
  exact ⟨rfl, hk⟩
def pTel (S : Nat → Nat → Int32) (x : Int32) : Nat → Nat → Int32 := if pBt x 6 = true then sa S 11 (upd (S 11) (nOf x) (S 0 1)) else S
theorem pTel_1 (S : Nat → Nat → Int32) {x : Int32} (h : pBt x 6 = true) : pTel S x = sa S 11 (upd (S 11) (nOf x) (S 0 1)) := if_pos h
theorem pTel_2 (S : Nat → Nat → Int32) {x : Int32} (h : pBt x 6 = false) : pTel S x = S := if_neg (by rw [h]; decide)
abbrev pPc (S : Nat → Nat → Int32) (x y : Int32) : Prop := pBt x 6 = true ∧ pBt y 20 = true ∧ pWhy S (nOf x) (nOf y) = 0
def pPW (S : Nat → Nat → Int32) (x y : Int32) : Int32 := if pBt x 6 = true ∧ pBt y 20 = true then pWhy S (nOf x) (nOf y) else nI 2
def pPS (S O : Nat → Nat → Int32) (x y : Int32) : Nat → Nat → Int32 := if pPc S x y then pRem S (pFor O S (nOf x) (nOf y)) (nOf x) (nOf y) else S
def pPO (S O : Nat → Nat → Int32) (x y : Int32) : Nat → Nat → Int32 := if pPc S x y then pFor O S (nOf x) (nOf y) else O
theorem pP_1 (S O : Nat → Nat → Int32) (x y : Int32) (h : pPc S x y) : pPS S O x y = pRem S (pFor O S (nOf x) (nOf y)) (nOf x) (nOf y) ∧ pPO S O x y = pFor O S (nOf x) (nOf y) := ⟨if_pos h, if_pos h⟩
theorem pP_2 (S O : Nat → Nat → Int32) (x y : Int32) (h : pBt x 6 = false ∨ pBt y 20 = false ∨ ¬ pWhy S (nOf x) (nOf y) = 0) : pPS S O x y = S ∧ pPO S O x y = O := by
  have hn : ¬ pPc S x y := fun q => by
    rcases h with h | h | h
    · rw [h] at q; exact absurd q.1 (by decide)
    · rw [h] at q; exact absurd q.2.1 (by decide)
    · exact h q.2.2
  exact ⟨if_neg hn, if_neg hn⟩
theorem pPW_1 (S : Nat → Nat → Int32) (x y : Int32) (h : pBt x 6 = true) (h2 : pBt y 20 = true) : pWhy S (nOf x) (nOf y) = pPW S x y := (if_pos ⟨h, h2⟩).symm
theorem pPW_2 (S : Nat → Nat → Int32) (x y : Int32) (h : pBt x 6 = false ∨ pBt y 20 = false) : nI 2 = pPW S x y := by
  refine (if_neg fun q => ?_).symm
  rcases h with h | h
  · rw [h] at q; exact absurd q.1 (by decide)
  · rw [h] at q; exact absurd q.2 (by decide)
/-- where a teaching part's sign '=' stands -/
def pEq (cd : Nat → Nat) (n a : Nat) : Nat := if pAt cd n (a + 1) = 61 then a + 1 else a + 2
theorem pEq_1 {cd : Nat → Nat} {n a : Nat} (h : pAt cd n (a + 1) = 61) : nI (a + 1) = nI (pEq cd n a) := by unfold pEq; rw [if_pos h]
theorem pEq_2 {cd : Nat → Nat} {n a : Nat} (h : ¬ pAt cd n (a + 1) = 61) : nI (a + 2) = nI (pEq cd n a) := by unfold pEq; rw [if_neg h]
theorem pEq_b (cd : Nat → Nat) (n a : Nat) : a ≤ pEq cd n a ∧ pEq cd n a ≤ a + 2 := by unfold pEq; split <;> omega

set_option maxHeartbeats 4000000 in
set_option maxRecDepth 100000 in
theorem c_X7_playTelling (l : Launch) (G : va_G) (T : Nat → ClassId) (sz : Nat) (w : Nat → Nat) (q : Nat → Nat) (qz : Nat → Nat) (h : Nat → Nat) (t : Nat → Nat) (gr : Nat → Nat) (u : Nat → Nat) (tr : Nat → Nat) (oc : Nat → Nat) (Sw : Nat → Nat → Int32) (S : Nat → Nat → Int32) (x : Int32) : RWv l yX7_playTelling wsX7_playTelling 1 0 0 G T sz (oX7 w q qz h t gr u tr oc Sw ++ oX3 T q S) [.ref (w 0), .int x] (oX7 w q qz h t gr u tr oc Sw ++ oX3 T q (pTel S x)) := by
  refine Met.ofW (cc := cX7_playTelling) (maxL := 2) (ret := none) (by decide) rfl ?_
  intro p e s m args below meth c s₁ B hml hv
  obtain ⟨ha, hsz, hP, hK, hD0, hE0⟩ := hv
  have hx := B.exec
  have hb := B.bytes
  have hr := B.returns
  have hlocks := B.notSynchronized
  have hts := atoms_spec (ws := wsX7_playTelling) B.pre
  have hown : s.vm.findClass RX7 = some m.cls := findClass_of_methodNamed B.named
  have cx : CallFix p m c cX7_playTelling 2 s args wsX7_playTelling RX7 := ⟨hx, hb, hml, hown, hts⟩
  subst hsz
  have hD := hD0.self (sz := s.heap.size)
  generalize hAe : va_A (oX7 w q qz h t gr u tr oc Sw ++ oX3 T q S) s.heap.size = A at hD hE0 ⊢
  have hE : gE A s s.heap := hE0
  have hA : ∀ q : Nat, s.heap.size ≤ q → A q := fun q h => by rw [← hAe]; exact Or.inr h
  have hS : va_S A s.heap s.heap [] := va_S.rf
  refine w_entry ha (Nat.le_of_ble_eq_true rfl) (fun ls hl => ?_)
  refine w_q (fun Q0 hQ => ?_)
  have lk10 := hts (.fieldLink RX7 10 "WhistleTunes" "school" "LWhistleTunes$School;") (by decide +kernel)
  have hinX7 : ∀ w ∈ wsX70, w ∈ wsX7_playTelling := by decide +kernel
  have lk126 := hts (.fieldLink RX7 126 "WhistleTunes$School" "roomKeys" "[I") (by decide +kernel)
  have hinX3 : ∀ w ∈ wsX30, w ∈ wsX7_playTelling := by decide +kernel
  have lk118 := hts (.fieldLink RX7 118 "WhistleTunes$School" "keyOfNow" "I") (by decide +kernel)
  have hl : lv_has ls 2 [(0, .ref (w 0)), (1, .int x)] := hl
  have hP : va_P G vwCl [(w 0, .inr (7, [.ref (q 0), .ref (qz 0), .ref (h 0), .ref (t 0), .ref (gr 0), .ref (u 0), .ref (tr 0), .ref (oc 0), .int (Sw 0 8)])), (q 0, .inr (3, [.int (S 0 0), .int (S 0 1), .int (S 0 2), .int (S 0 3), .ref (q 5), .ref (q 6), .ref (q 7), .ref (q 8), .ref (q 9), .ref (q 10), .ref (q 11), .ref (q 12), .ref (q 13), .ref (q 14), .ref (q 15), .ref (q 16)])), (q 5, .inl (T 0, 2, .inl (S 5))), (q 6, .inl (T 0, 20, .inl (S 6))), (q 7, .inl (T 0, 160, .inl (S 7))), (q 8, .inl (T 0, 20, .inl (S 8))), (q 9, .inl (T 0, 20, .inl (S 9))), (q 10, .inl (T 0, 20, .inl (S 10))), (q 11, .inl (T 0, 6, .inl (S 11))), (q 12, .inl (T 0, 6, .inl (S 12))), (q 13, .inl (T 0, 6, .inl (S 13))), (q 14, .inl (T 0, 6, .inl (S 14))), (q 15, .inl (T 0, 6, .inl (S 15))), (q 16, .inl (T 0, 2, .inl (S 16)))] s.heap := hP
  have hD : va_D A [(w 0, .inr (7, [.ref (q 0), .ref (qz 0), .ref (h 0), .ref (t 0), .ref (gr 0), .ref (u 0), .ref (tr 0), .ref (oc 0), .int (Sw 0 8)])), (q 0, .inr (3, [.int (S 0 0), .int (S 0 1), .int (S 0 2), .int (S 0 3), .ref (q 5), .ref (q 6), .ref (q 7), .ref (q 8), .ref (q 9), .ref (q 10), .ref (q 11), .ref (q 12), .ref (q 13), .ref (q 14), .ref (q 15), .ref (q 16)])), (q 5, .inl (T 0, 2, .inl (S 5))), (q 6, .inl (T 0, 20, .inl (S 6))), (q 7, .inl (T 0, 160, .inl (S 7))), (q 8, .inl (T 0, 20, .inl (S 8))), (q 9, .inl (T 0, 20, .inl (S 9))), (q 10, .inl (T 0, 20, .inl (S 10))), (q 11, .inl (T 0, 6, .inl (S 11))), (q 12, .inl (T 0, 6, .inl (S 12))), (q 13, .inl (T 0, 6, .inl (S 13))), (q 14, .inl (T 0, 6, .inl (S 14))), (q 15, .inl (T 0, 6, .inl (S 15))), (q 16, .inl (T 0, 2, .inl (S 16)))] := hD
  skip
  refine w_h (fun H locs hHe hLe => ?_)
  have hP : va_P G vwCl [(w 0, .inr (7, [.ref (q 0), .ref (qz 0), .ref (h 0), .ref (t 0), .ref (gr 0), .ref (u 0), .ref (tr 0), .ref (oc 0), .int (Sw 0 8)])), (q 0, .inr (3, [.int (S 0 0), .int (S 0 1), .int (S 0 2), .int (S 0 3), .ref (q 5), .ref (q 6), .ref (q 7), .ref (q 8), .ref (q 9), .ref (q 10), .ref (q 11), .ref (q 12), .ref (q 13), .ref (q 14), .ref (q 15), .ref (q 16)])), (q 5, .inl (T 0, 2, .inl (S 5))), (q 6, .inl (T 0, 20, .inl (S 6))), (q 7, .inl (T 0, 160, .inl (S 7))), (q 8, .inl (T 0, 20, .inl (S 8))), (q 9, .inl (T 0, 20, .inl (S 9))), (q 10, .inl (T 0, 20, .inl (S 10))), (q 11, .inl (T 0, 6, .inl (S 11))), (q 12, .inl (T 0, 6, .inl (S 12))), (q 13, .inl (T 0, 6, .inl (S 13))), (q 14, .inl (T 0, 6, .inl (S 14))), (q 15, .inl (T 0, 6, .inl (S 15))), (q 16, .inl (T 0, 2, .inl (S 16)))] H := by rw [hHe]; exact hP
  have hS : va_S A s.heap H locs := by rw [hHe, hLe]; exact hS
  refine lv_iload_n hx hb dX7_playTelling_0 rfl (lv_at hl 1 rfl) ?_
  refine k_roS (As := [.int x]) (rest := []) (wc := []) (d := 0) (v := bI (pBt x 6)) cx (c_X7_isRoom l G T A x ) (va_cwS 1 hts gX7_playTelling_X7_isRoom rfl rfl rfl (by decide +kernel) ⟨Nat.le_of_ble_eq_true rfl, Nat.le_of_ble_eq_true rfl⟩) (hP.sub (ws' := []) [] rfl) hK (hE.kept hS.2.1) rfl hl.1 rfl (Nat.le_of_ble_eq_true rfl) dX7_playTelling_1 ⟨Nat.le_of_ble_eq_true rfl, Nat.le_of_ble_eq_true rfl⟩ ?_
  refine b_if_eq (b := pBt x 6) (tgt := 23) hx hb dX7_playTelling_4 (by decide) (fun c_1 => ?_) (fun c_2 => ?_)
  · skip
    subst hQ
    have hP9 : va_P G vwCl (oX7 w q qz h t gr u tr oc Sw ++ oX3 T q (pTel S x)) H := (by first | (rw [pTel_1 S (by assumption)]; exact hP) | (rw [pTel_2 S (by assumption)]; exact hP))
    have hD9 : va_D A (oX7 w q qz h t gr u tr oc Sw ++ oX3 T q (pTel S x)) := (by first | (rw [pTel_1 S (by assumption)]; exact hD) | (rw [pTel_2 S (by assumption)]; exact hD))
    exact e_rwv hx hb hr hlocks hS hP9 hD9 dX7_playTelling_23
  · skip
    refine lv_aload_n hx hb dX7_playTelling_7 rfl (lv_at hl 0 rfl) ?_
    refine va_get (D := G) (ci := 7) (v := .ref (q 0)) (C := RX7) (T := TX7) (N := 9) hx hb hts hinX7 hown hK hP 0 rfl rfl 0 (by decide) lk10 (fun _ h9 => h9) rfl dX7_playTelling_8 ?_
    refine va_get (D := G) (ci := 3) (v := .ref (q 11)) (C := RX3) (T := TX3) (N := 16) hx hb hts hinX3 hown hK hP 1 rfl rfl 10 (by decide) lk126 (fun _ h9 => h9) rfl dX7_playTelling_11 ?_
    have hxv := (pBt_V (x := x) (n := 6) (by assumption) (by decide)).2
    refine lv_iload_n hx hb dX7_playTelling_14 rfl (lv_at hl 1 rfl) ?_
    refine n_top (y := nI (nOf x)) (pBt_V (n := 6) (by assumption) (by decide)).1 ?_
    refine lv_aload_n hx hb dX7_playTelling_15 rfl (lv_at hl 0 rfl) ?_
    refine va_get (D := G) (ci := 7) (v := .ref (q 0)) (C := RX7) (T := TX7) (N := 9) hx hb hts hinX7 hown hK hP 0 rfl rfl 0 (by decide) lk10 (fun _ h9 => h9) rfl dX7_playTelling_16 ?_
    refine va_get (D := G) (ci := 3) (v := .int (S 0 1)) (C := RX3) (T := TX3) (N := 16) hx hb hts hinX3 hown hK hP 1 rfl rfl 1 (by decide) lk118 (fun _ h9 => h9) rfl dX7_playTelling_19 ?_
    refine n_iast hx hb hK hP hD hS 8 0 rfl rfl (nOf x) (by omega) (by decide) dX7_playTelling_22 (fun H locs hP hD hS => ?_)
    have hP : va_P G vwCl [(w 0, .inr (7, [.ref (q 0), .ref (qz 0), .ref (h 0), .ref (t 0), .ref (gr 0), .ref (u 0), .ref (tr 0), .ref (oc 0), .int (Sw 0 8)])), (q 0, .inr (3, [.int (S 0 0), .int (S 0 1), .int (S 0 2), .int (S 0 3), .ref (q 5), .ref (q 6), .ref (q 7), .ref (q 8), .ref (q 9), .ref (q 10), .ref (q 11), .ref (q 12), .ref (q 13), .ref (q 14), .ref (q 15), .ref (q 16)])), (q 5, .inl (T 0, 2, .inl (S 5))), (q 6, .inl (T 0, 20, .inl (S 6))), (q 7, .inl (T 0, 160, .inl (S 7))), (q 8, .inl (T 0, 20, .inl (S 8))), (q 9, .inl (T 0, 20, .inl (S 9))), (q 10, .inl (T 0, 20, .inl (S 10))), (q 11, .inl (T 0, 6, .inl (upd (S 11) (nOf x) (S 0 1)))), (q 12, .inl (T 0, 6, .inl (S 12))), (q 13, .inl (T 0, 6, .inl (S 13))), (q 14, .inl (T 0, 6, .inl (S 14))), (q 15, .inl (T 0, 6, .inl (S 15))), (q 16, .inl (T 0, 2, .inl (S 16)))] H := hP
    have hD : va_D A [(w 0, .inr (7, [.ref (q 0), .ref (qz 0), .ref (h 0), .ref (t 0), .ref (gr 0), .ref (u 0), .ref (tr 0), .ref (oc 0), .int (Sw 0 8)])), (q 0, .inr (3, [.int (S 0 0), .int (S 0 1), .int (S 0 2), .int (S 0 3), .ref (q 5), .ref (q 6), .ref (q 7), .ref (q 8), .ref (q 9), .ref (q 10), .ref (q 11), .ref (q 12), .ref (q 13), .ref (q 14), .ref (q 15), .ref (q 16)])), (q 5, .inl (T 0, 2, .inl (S 5))), (q 6, .inl (T 0, 20, .inl (S 6))), (q 7, .inl (T 0, 160, .inl (S 7))), (q 8, .inl (T 0, 20, .inl (S 8))), (q 9, .inl (T 0, 20, .inl (S 9))), (q 10, .inl (T 0, 20, .inl (S 10))), (q 11, .inl (T 0, 6, .inl (upd (S 11) (nOf x) (S 0 1)))), (q 12, .inl (T 0, 6, .inl (S 12))), (q 13, .inl (T 0, 6, .inl (S 13))), (q 14, .inl (T 0, 6, .inl (S 14))), (q 15, .inl (T 0, 6, .inl (S 15))), (q 16, .inl (T 0, 2, .inl (S 16)))] := hD
    subst hQ
    have hP9 : va_P G vwCl (oX7 w q qz h t gr u tr oc Sw ++ oX3 T q (pTel S x)) H := (by first | (rw [pTel_1 S (by assumption)]; exact hP) | (rw [pTel_2 S (by assumption)]; exact hP))
    have hD9 : va_D A (oX7 w q qz h t gr u tr oc Sw ++ oX3 T q (pTel S x)) := (by first | (rw [pTel_1 S (by assumption)]; exact hD) | (rw [pTel_2 S (by assumption)]; exact hD))
    exact e_rwv hx hb hr hlocks hS hP9 hD9 dX7_playTelling_23
set_option maxHeartbeats 4000000 in
set_option maxRecDepth 100000 in
theorem c_X7_playWhistle (l : Launch) (G : va_G) (T : Nat → ClassId) (sz : Nat) (w : Nat → Nat) (q : Nat → Nat) (qz : Nat → Nat) (h : Nat → Nat) (t : Nat → Nat) (gr : Nat → Nat) (u : Nat → Nat) (tr : Nat → Nat) (oc : Nat → Nat) (Sw : Nat → Nat → Int32) (O : Nat → Nat → Int32) (S : Nat → Nat → Int32) (x : Int32) (y : Int32) : RWi l yX7_playWhistle wsX7_playWhistle 6 0 0 G T sz (oX7 w q qz h t gr u tr oc Sw ++ oX2 T oc O ++ oX3 T q S) [.ref (w 0), .int x, .int y] (pPW S x y) (oX7 w q qz h t gr u tr oc Sw ++ oX2 T oc (pPO S O x y) ++ oX3 T q (pPS S O x y)) := by
  refine Met.ofW (cc := cX7_playWhistle) (maxL := 4) (ret := (some .int)) (by decide) rfl ?_
  intro p e s m args below meth c s₁ B hml hv
  obtain ⟨ha, hsz, hP, hK, hD0, hE0⟩ := hv
  have hx := B.exec
  have hb := B.bytes
  have hr := B.returns
  have hlocks := B.notSynchronized
  have hts := atoms_spec (ws := wsX7_playWhistle) B.pre
  have hown : s.vm.findClass RX7 = some m.cls := findClass_of_methodNamed B.named
  have cx : CallFix p m c cX7_playWhistle 4 s args wsX7_playWhistle RX7 := ⟨hx, hb, hml, hown, hts⟩
  subst hsz
  have hD := hD0.self (sz := s.heap.size)
  generalize hAe : va_A (oX7 w q qz h t gr u tr oc Sw ++ oX2 T oc O ++ oX3 T q S) s.heap.size = A at hD hE0 ⊢
  have hE : gE A s s.heap := hE0
  have hA : ∀ q : Nat, s.heap.size ≤ q → A q := fun q h => by rw [← hAe]; exact Or.inr h
  have hS : va_S A s.heap s.heap [] := va_S.rf
  refine w_entry ha (Nat.le_of_ble_eq_true rfl) (fun ls hl => ?_)
  refine w_q (fun Q0 hQ => ?_)
  have lk10 := hts (.fieldLink RX7 10 "WhistleTunes" "school" "LWhistleTunes$School;") (by decide +kernel)
  have hinX7 : ∀ w ∈ wsX70, w ∈ wsX7_playWhistle := by decide +kernel
  have hl : lv_has ls 4 [(0, .ref (w 0)), (1, .int x), (2, .int y)] := hl
  have hP : va_P G vwCl [(w 0, .inr (7, [.ref (q 0), .ref (qz 0), .ref (h 0), .ref (t 0), .ref (gr 0), .ref (u 0), .ref (tr 0), .ref (oc 0), .int (Sw 0 8)])), (oc 0, .inr (2, [.int (O 0 0), .int (O 0 1), .int (O 0 2), .int (O 0 3), .int (O 0 4)])), (q 0, .inr (3, [.int (S 0 0), .int (S 0 1), .int (S 0 2), .int (S 0 3), .ref (q 5), .ref (q 6), .ref (q 7), .ref (q 8), .ref (q 9), .ref (q 10), .ref (q 11), .ref (q 12), .ref (q 13), .ref (q 14), .ref (q 15), .ref (q 16)])), (q 5, .inl (T 0, 2, .inl (S 5))), (q 6, .inl (T 0, 20, .inl (S 6))), (q 7, .inl (T 0, 160, .inl (S 7))), (q 8, .inl (T 0, 20, .inl (S 8))), (q 9, .inl (T 0, 20, .inl (S 9))), (q 10, .inl (T 0, 20, .inl (S 10))), (q 11, .inl (T 0, 6, .inl (S 11))), (q 12, .inl (T 0, 6, .inl (S 12))), (q 13, .inl (T 0, 6, .inl (S 13))), (q 14, .inl (T 0, 6, .inl (S 14))), (q 15, .inl (T 0, 6, .inl (S 15))), (q 16, .inl (T 0, 2, .inl (S 16)))] s.heap := hP
  have hD : va_D A [(w 0, .inr (7, [.ref (q 0), .ref (qz 0), .ref (h 0), .ref (t 0), .ref (gr 0), .ref (u 0), .ref (tr 0), .ref (oc 0), .int (Sw 0 8)])), (oc 0, .inr (2, [.int (O 0 0), .int (O 0 1), .int (O 0 2), .int (O 0 3), .int (O 0 4)])), (q 0, .inr (3, [.int (S 0 0), .int (S 0 1), .int (S 0 2), .int (S 0 3), .ref (q 5), .ref (q 6), .ref (q 7), .ref (q 8), .ref (q 9), .ref (q 10), .ref (q 11), .ref (q 12), .ref (q 13), .ref (q 14), .ref (q 15), .ref (q 16)])), (q 5, .inl (T 0, 2, .inl (S 5))), (q 6, .inl (T 0, 20, .inl (S 6))), (q 7, .inl (T 0, 160, .inl (S 7))), (q 8, .inl (T 0, 20, .inl (S 8))), (q 9, .inl (T 0, 20, .inl (S 9))), (q 10, .inl (T 0, 20, .inl (S 10))), (q 11, .inl (T 0, 6, .inl (S 11))), (q 12, .inl (T 0, 6, .inl (S 12))), (q 13, .inl (T 0, 6, .inl (S 13))), (q 14, .inl (T 0, 6, .inl (S 14))), (q 15, .inl (T 0, 6, .inl (S 15))), (q 16, .inl (T 0, 2, .inl (S 16)))] := hD
  skip
  refine w_h (fun H locs hHe hLe => ?_)
  have hP : va_P G vwCl [(w 0, .inr (7, [.ref (q 0), .ref (qz 0), .ref (h 0), .ref (t 0), .ref (gr 0), .ref (u 0), .ref (tr 0), .ref (oc 0), .int (Sw 0 8)])), (oc 0, .inr (2, [.int (O 0 0), .int (O 0 1), .int (O 0 2), .int (O 0 3), .int (O 0 4)])), (q 0, .inr (3, [.int (S 0 0), .int (S 0 1), .int (S 0 2), .int (S 0 3), .ref (q 5), .ref (q 6), .ref (q 7), .ref (q 8), .ref (q 9), .ref (q 10), .ref (q 11), .ref (q 12), .ref (q 13), .ref (q 14), .ref (q 15), .ref (q 16)])), (q 5, .inl (T 0, 2, .inl (S 5))), (q 6, .inl (T 0, 20, .inl (S 6))), (q 7, .inl (T 0, 160, .inl (S 7))), (q 8, .inl (T 0, 20, .inl (S 8))), (q 9, .inl (T 0, 20, .inl (S 9))), (q 10, .inl (T 0, 20, .inl (S 10))), (q 11, .inl (T 0, 6, .inl (S 11))), (q 12, .inl (T 0, 6, .inl (S 12))), (q 13, .inl (T 0, 6, .inl (S 13))), (q 14, .inl (T 0, 6, .inl (S 14))), (q 15, .inl (T 0, 6, .inl (S 15))), (q 16, .inl (T 0, 2, .inl (S 16)))] H := by rw [hHe]; exact hP
  have hS : va_S A s.heap H locs := by rw [hHe, hLe]; exact hS
  refine lv_iload_n hx hb dX7_playWhistle_0 rfl (lv_at hl 1 rfl) ?_
  refine k_roS (As := [.int x]) (rest := []) (wc := []) (d := 0) (v := bI (pBt x 6)) cx (c_X7_isRoom l G T A x ) (va_cwS 1 hts gX7_playWhistle_X7_isRoom rfl rfl rfl (by decide +kernel) ⟨Nat.le_of_ble_eq_true rfl, Nat.le_of_ble_eq_true rfl⟩) (hP.sub (ws' := []) [] rfl) hK (hE.kept hS.2.1) rfl hl.1 rfl (Nat.le_of_ble_eq_true rfl) dX7_playWhistle_1 ⟨Nat.le_of_ble_eq_true rfl, Nat.le_of_ble_eq_true rfl⟩ ?_
  refine b_if_eq (b := pBt x 6) (tgt := 14) hx hb dX7_playWhistle_4 (by decide) (fun c_1 => ?_) (fun c_2 => ?_)
  · skip
    refine n_iconst hx hb 2 dX7_playWhistle_14 (by decide) ?_
    subst hQ
    have hP9 : va_P G vwCl (oX7 w q qz h t gr u tr oc Sw ++ oX2 T oc (pPO S O x y) ++ oX3 T q (pPS S O x y)) H := (by first | (rw [(pP_1 S O x y ⟨by assumption, by assumption, by assumption⟩).1, (pP_1 S O x y ⟨by assumption, by assumption, by assumption⟩).2]; exact hP) | (rw [(pP_2 S O x y (by first | exact Or.inl (by assumption) | exact Or.inr (Or.inl (by assumption)) | exact Or.inr (Or.inr (by assumption)))).1, (pP_2 S O x y (by first | exact Or.inl (by assumption) | exact Or.inr (Or.inl (by assumption)) | exact Or.inr (Or.inr (by assumption)))).2]; exact hP))
    have hD9 : va_D A (oX7 w q qz h t gr u tr oc Sw ++ oX2 T oc (pPO S O x y) ++ oX3 T q (pPS S O x y)) := (by first | (rw [(pP_1 S O x y ⟨by assumption, by assumption, by assumption⟩).1, (pP_1 S O x y ⟨by assumption, by assumption, by assumption⟩).2]; exact hD) | (rw [(pP_2 S O x y (by first | exact Or.inl (by assumption) | exact Or.inr (Or.inl (by assumption)) | exact Or.inr (Or.inr (by assumption)))).1, (pP_2 S O x y (by first | exact Or.inl (by assumption) | exact Or.inr (Or.inl (by assumption)) | exact Or.inr (Or.inr (by assumption)))).2]; exact hD))
    exact e_rwi hx hb hr hlocks hS (by first | exact pPW_1 S x y (by assumption) (by assumption) | exact pPW_2 S x y (Or.inl (by assumption)) | exact pPW_2 S x y (Or.inr (by assumption))) hP9 hD9 dX7_playWhistle_15
  · skip
    refine lv_iload_n hx hb dX7_playWhistle_7 rfl (lv_at hl 2 rfl) ?_
    refine k_roS (As := [.int y]) (rest := []) (wc := []) (d := 0) (v := bI (pBt y 20)) cx (c_X7_isMessage l G T A y ) (va_cwS 1 hts gX7_playWhistle_X7_isMessage rfl rfl rfl (by decide +kernel) ⟨Nat.le_of_ble_eq_true rfl, Nat.le_of_ble_eq_true rfl⟩) (hP.sub (ws' := []) [] rfl) hK (hE.kept hS.2.1) rfl hl.1 rfl (Nat.le_of_ble_eq_true rfl) dX7_playWhistle_8 ⟨Nat.le_of_ble_eq_true rfl, Nat.le_of_ble_eq_true rfl⟩ ?_
    refine b_if_ne (b := pBt y 20) (tgt := 16) hx hb dX7_playWhistle_11 (by decide) (fun c_3 => ?_) (fun c_4 => ?_)
    · skip
      refine lv_aload_n hx hb dX7_playWhistle_16 rfl (lv_at hl 0 rfl) ?_
      refine va_get (D := G) (ci := 7) (v := .ref (q 0)) (C := RX7) (T := TX7) (N := 9) hx hb hts hinX7 hown hK hP 0 rfl rfl 0 (by decide) lk10 (fun _ h9 => h9) rfl dX7_playWhistle_17 ?_
      refine lv_iload_n hx hb dX7_playWhistle_20 rfl (lv_at hl 1 rfl) ?_
      refine n_top (y := nI (nOf x)) (pBt_V (n := 6) (by assumption) (by decide)).1 ?_
      refine lv_iload_n hx hb dX7_playWhistle_21 rfl (lv_at hl 2 rfl) ?_
      refine n_top (y := nI (nOf y)) (pBt_V (n := 20) (by assumption) (by decide)).1 ?_
      refine k_roV (As := [.int (nI (nOf x)), .int (nI (nOf y))]) (rest := []) (wc := oX3 T q S) (d := 1) (v := pWhy S (nOf x) (nOf y)) cx (c_X3_reasonAgainst l G T A q S (nOf x) (nOf y) (pBt_V (n := 6) (by assumption) (by decide)).2 (pBt_V (n := 20) (by assumption) (by decide)).2) (cwV 2 hts gX7_playWhistle_X3_reasonAgainst rfl rfl rfl (by decide +kernel) ⟨Nat.le_of_ble_eq_true rfl, Nat.le_of_ble_eq_true rfl⟩) (hP.sub (ws' := oX3 T q S) [2, 3, 4, 5, 6, 7, 8, 9, 10, 11, 12, 13, 14] rfl) hK (hE.kept hS.2.1) (va_recv hK hP (ci := 3) (q0 := 2) rfl rfl) rfl hl.1 rfl (Nat.le_of_ble_eq_true rfl) dX7_playWhistle_22 ⟨Nat.le_of_ble_eq_true rfl, Nat.le_of_ble_eq_true rfl⟩ ?_
      refine lv_istore_n (lv' := [(3, .int (pWhy S (nOf x) (nOf y))), (0, .ref (w 0)), (1, .int x), (2, .int y)]) hx hb dX7_playWhistle_25 rfl hl (by decide) rfl (fun ls hl => ?_)
      refine lv_iload_n hx hb dX7_playWhistle_26 rfl (lv_at hl 0 rfl) ?_
      refine lv_if_ne (tgt := 37) hx hb dX7_playWhistle_27 (by decide) (fun c_5 => ?_) (fun c_6 => ?_)
      · skip
        refine lv_iload_n hx hb dX7_playWhistle_37 rfl (lv_at hl 0 rfl) ?_
        subst hQ
        have hP9 : va_P G vwCl (oX7 w q qz h t gr u tr oc Sw ++ oX2 T oc (pPO S O x y) ++ oX3 T q (pPS S O x y)) H := (by first | (rw [(pP_1 S O x y ⟨by assumption, by assumption, by assumption⟩).1, (pP_1 S O x y ⟨by assumption, by assumption, by assumption⟩).2]; exact hP) | (rw [(pP_2 S O x y (by first | exact Or.inl (by assumption) | exact Or.inr (Or.inl (by assumption)) | exact Or.inr (Or.inr (by assumption)))).1, (pP_2 S O x y (by first | exact Or.inl (by assumption) | exact Or.inr (Or.inl (by assumption)) | exact Or.inr (Or.inr (by assumption)))).2]; exact hP))
        have hD9 : va_D A (oX7 w q qz h t gr u tr oc Sw ++ oX2 T oc (pPO S O x y) ++ oX3 T q (pPS S O x y)) := (by first | (rw [(pP_1 S O x y ⟨by assumption, by assumption, by assumption⟩).1, (pP_1 S O x y ⟨by assumption, by assumption, by assumption⟩).2]; exact hD) | (rw [(pP_2 S O x y (by first | exact Or.inl (by assumption) | exact Or.inr (Or.inl (by assumption)) | exact Or.inr (Or.inr (by assumption)))).1, (pP_2 S O x y (by first | exact Or.inl (by assumption) | exact Or.inr (Or.inl (by assumption)) | exact Or.inr (Or.inr (by assumption)))).2]; exact hD))
        exact e_rwi hx hb hr hlocks hS (by first | exact pPW_1 S x y (by assumption) (by assumption) | exact pPW_2 S x y (Or.inl (by assumption)) | exact pPW_2 S x y (Or.inr (by assumption))) hP9 hD9 dX7_playWhistle_38
      · skip
        refine lv_aload_n hx hb dX7_playWhistle_30 rfl (lv_at hl 1 rfl) ?_
        refine lv_iload_n hx hb dX7_playWhistle_31 rfl (lv_at hl 2 rfl) ?_
        refine n_top (y := nI (nOf x)) (pBt_V (n := 6) (by assumption) (by decide)).1 ?_
        refine lv_iload_n hx hb dX7_playWhistle_32 rfl (lv_at hl 3 rfl) ?_
        refine n_top (y := nI (nOf y)) (pBt_V (n := 20) (by assumption) (by decide)).1 ?_
        refine k_rwV (As := [.int (nI (nOf x)), .int (nI (nOf y))]) (rest := []) (wc := oX7 w q qz h t gr u tr oc Sw ++ oX2 T oc O ++ oX3 T q S) (wr := []) (w1 := oX7 w q qz h t gr u tr oc Sw ++ oX2 T oc (pFor O S (nOf x) (nOf y)) ++ oX3 T q (pRem S (pFor O S (nOf x) (nOf y)) (nOf x) (nOf y))) (d := 4) (mc := 0) (ms := 0) (v := pBC (pUn S (nOf x))) (isC := [0, 1, 2, 3, 4, 5, 6, 7, 8, 9, 10, 11, 12, 13, 14]) (isR := []) cx (c_X7_soundWhistle l G T H.size w q qz h t gr u tr oc Sw O S (nOf x) (nOf y) (pBt_V (n := 6) (by assumption) (by decide)).2 (pBt_V (n := 20) (by assumption) (by decide)).2) (cwV 2 hts gX7_playWhistle_X7_soundWhistle rfl rfl rfl (by decide +kernel) ⟨Nat.le_of_ble_eq_true rfl, Nat.le_of_ble_eq_true rfl⟩) ⟨hP, hD, hS, hA, hE, hK, rfl, rfl, rfl, rfl, by decide⟩ (va_recv hK hP (ci := 7) (q0 := 0) rfl rfl) rfl hl.1 rfl (Nat.le_of_ble_eq_true rfl) dX7_playWhistle_33 ⟨Nat.le_of_ble_eq_true rfl, Nat.le_of_ble_eq_true rfl⟩ (fun H locs hP hD hS hz => ?_)
        have hP : va_P G vwCl [(w 0, .inr (7, [.ref (q 0), .ref (qz 0), .ref (h 0), .ref (t 0), .ref (gr 0), .ref (u 0), .ref (tr 0), .ref (oc 0), .int (Sw 0 8)])), (oc 0, .inr (2, [.int ((pFor O S (nOf x) (nOf y)) 0 0), .int ((pFor O S (nOf x) (nOf y)) 0 1), .int ((pFor O S (nOf x) (nOf y)) 0 2), .int ((pFor O S (nOf x) (nOf y)) 0 3), .int ((pFor O S (nOf x) (nOf y)) 0 4)])), (q 0, .inr (3, [.int ((pRem S (pFor O S (nOf x) (nOf y)) (nOf x) (nOf y)) 0 0), .int ((pRem S (pFor O S (nOf x) (nOf y)) (nOf x) (nOf y)) 0 1), .int ((pRem S (pFor O S (nOf x) (nOf y)) (nOf x) (nOf y)) 0 2), .int ((pRem S (pFor O S (nOf x) (nOf y)) (nOf x) (nOf y)) 0 3), .ref (q 5), .ref (q 6), .ref (q 7), .ref (q 8), .ref (q 9), .ref (q 10), .ref (q 11), .ref (q 12), .ref (q 13), .ref (q 14), .ref (q 15), .ref (q 16)])), (q 5, .inl (T 0, 2, .inl ((pRem S (pFor O S (nOf x) (nOf y)) (nOf x) (nOf y)) 5))), (q 6, .inl (T 0, 20, .inl ((pRem S (pFor O S (nOf x) (nOf y)) (nOf x) (nOf y)) 6))), (q 7, .inl (T 0, 160, .inl ((pRem S (pFor O S (nOf x) (nOf y)) (nOf x) (nOf y)) 7))), (q 8, .inl (T 0, 20, .inl ((pRem S (pFor O S (nOf x) (nOf y)) (nOf x) (nOf y)) 8))), (q 9, .inl (T 0, 20, .inl ((pRem S (pFor O S (nOf x) (nOf y)) (nOf x) (nOf y)) 9))), (q 10, .inl (T 0, 20, .inl ((pRem S (pFor O S (nOf x) (nOf y)) (nOf x) (nOf y)) 10))), (q 11, .inl (T 0, 6, .inl ((pRem S (pFor O S (nOf x) (nOf y)) (nOf x) (nOf y)) 11))), (q 12, .inl (T 0, 6, .inl ((pRem S (pFor O S (nOf x) (nOf y)) (nOf x) (nOf y)) 12))), (q 13, .inl (T 0, 6, .inl ((pRem S (pFor O S (nOf x) (nOf y)) (nOf x) (nOf y)) 13))), (q 14, .inl (T 0, 6, .inl ((pRem S (pFor O S (nOf x) (nOf y)) (nOf x) (nOf y)) 14))), (q 15, .inl (T 0, 6, .inl ((pRem S (pFor O S (nOf x) (nOf y)) (nOf x) (nOf y)) 15))), (q 16, .inl (T 0, 2, .inl ((pRem S (pFor O S (nOf x) (nOf y)) (nOf x) (nOf y)) 16)))] H := hP
        have hD : va_D A [(w 0, .inr (7, [.ref (q 0), .ref (qz 0), .ref (h 0), .ref (t 0), .ref (gr 0), .ref (u 0), .ref (tr 0), .ref (oc 0), .int (Sw 0 8)])), (oc 0, .inr (2, [.int ((pFor O S (nOf x) (nOf y)) 0 0), .int ((pFor O S (nOf x) (nOf y)) 0 1), .int ((pFor O S (nOf x) (nOf y)) 0 2), .int ((pFor O S (nOf x) (nOf y)) 0 3), .int ((pFor O S (nOf x) (nOf y)) 0 4)])), (q 0, .inr (3, [.int ((pRem S (pFor O S (nOf x) (nOf y)) (nOf x) (nOf y)) 0 0), .int ((pRem S (pFor O S (nOf x) (nOf y)) (nOf x) (nOf y)) 0 1), .int ((pRem S (pFor O S (nOf x) (nOf y)) (nOf x) (nOf y)) 0 2), .int ((pRem S (pFor O S (nOf x) (nOf y)) (nOf x) (nOf y)) 0 3), .ref (q 5), .ref (q 6), .ref (q 7), .ref (q 8), .ref (q 9), .ref (q 10), .ref (q 11), .ref (q 12), .ref (q 13), .ref (q 14), .ref (q 15), .ref (q 16)])), (q 5, .inl (T 0, 2, .inl ((pRem S (pFor O S (nOf x) (nOf y)) (nOf x) (nOf y)) 5))), (q 6, .inl (T 0, 20, .inl ((pRem S (pFor O S (nOf x) (nOf y)) (nOf x) (nOf y)) 6))), (q 7, .inl (T 0, 160, .inl ((pRem S (pFor O S (nOf x) (nOf y)) (nOf x) (nOf y)) 7))), (q 8, .inl (T 0, 20, .inl ((pRem S (pFor O S (nOf x) (nOf y)) (nOf x) (nOf y)) 8))), (q 9, .inl (T 0, 20, .inl ((pRem S (pFor O S (nOf x) (nOf y)) (nOf x) (nOf y)) 9))), (q 10, .inl (T 0, 20, .inl ((pRem S (pFor O S (nOf x) (nOf y)) (nOf x) (nOf y)) 10))), (q 11, .inl (T 0, 6, .inl ((pRem S (pFor O S (nOf x) (nOf y)) (nOf x) (nOf y)) 11))), (q 12, .inl (T 0, 6, .inl ((pRem S (pFor O S (nOf x) (nOf y)) (nOf x) (nOf y)) 12))), (q 13, .inl (T 0, 6, .inl ((pRem S (pFor O S (nOf x) (nOf y)) (nOf x) (nOf y)) 13))), (q 14, .inl (T 0, 6, .inl ((pRem S (pFor O S (nOf x) (nOf y)) (nOf x) (nOf y)) 14))), (q 15, .inl (T 0, 6, .inl ((pRem S (pFor O S (nOf x) (nOf y)) (nOf x) (nOf y)) 15))), (q 16, .inl (T 0, 2, .inl ((pRem S (pFor O S (nOf x) (nOf y)) (nOf x) (nOf y)) 16)))] := hD
        refine lv_pop hx hb dX7_playWhistle_36 rfl ?_
        refine lv_iload_n hx hb dX7_playWhistle_37 rfl (lv_at hl 0 rfl) ?_
        subst hQ
        have hP9 : va_P G vwCl (oX7 w q qz h t gr u tr oc Sw ++ oX2 T oc (pPO S O x y) ++ oX3 T q (pPS S O x y)) H := (by first | (rw [(pP_1 S O x y ⟨by assumption, by assumption, by assumption⟩).1, (pP_1 S O x y ⟨by assumption, by assumption, by assumption⟩).2]; exact hP) | (rw [(pP_2 S O x y (by first | exact Or.inl (by assumption) | exact Or.inr (Or.inl (by assumption)) | exact Or.inr (Or.inr (by assumption)))).1, (pP_2 S O x y (by first | exact Or.inl (by assumption) | exact Or.inr (Or.inl (by assumption)) | exact Or.inr (Or.inr (by assumption)))).2]; exact hP))
        have hD9 : va_D A (oX7 w q qz h t gr u tr oc Sw ++ oX2 T oc (pPO S O x y) ++ oX3 T q (pPS S O x y)) := (by first | (rw [(pP_1 S O x y ⟨by assumption, by assumption, by assumption⟩).1, (pP_1 S O x y ⟨by assumption, by assumption, by assumption⟩).2]; exact hD) | (rw [(pP_2 S O x y (by first | exact Or.inl (by assumption) | exact Or.inr (Or.inl (by assumption)) | exact Or.inr (Or.inr (by assumption)))).1, (pP_2 S O x y (by first | exact Or.inl (by assumption) | exact Or.inr (Or.inl (by assumption)) | exact Or.inr (Or.inr (by assumption)))).2]; exact hD))
        exact e_rwi hx hb hr hlocks hS (by first | exact pPW_1 S x y (by assumption) (by assumption) | exact pPW_2 S x y (Or.inl (by assumption)) | exact pPW_2 S x y (Or.inr (by assumption))) hP9 hD9 dX7_playWhistle_38
    · skip
      refine n_iconst hx hb 2 dX7_playWhistle_14 (by decide) ?_
      subst hQ
      have hP9 : va_P G vwCl (oX7 w q qz h t gr u tr oc Sw ++ oX2 T oc (pPO S O x y) ++ oX3 T q (pPS S O x y)) H := (by first | (rw [(pP_1 S O x y ⟨by assumption, by assumption, by assumption⟩).1, (pP_1 S O x y ⟨by assumption, by assumption, by assumption⟩).2]; exact hP) | (rw [(pP_2 S O x y (by first | exact Or.inl (by assumption) | exact Or.inr (Or.inl (by assumption)) | exact Or.inr (Or.inr (by assumption)))).1, (pP_2 S O x y (by first | exact Or.inl (by assumption) | exact Or.inr (Or.inl (by assumption)) | exact Or.inr (Or.inr (by assumption)))).2]; exact hP))
      have hD9 : va_D A (oX7 w q qz h t gr u tr oc Sw ++ oX2 T oc (pPO S O x y) ++ oX3 T q (pPS S O x y)) := (by first | (rw [(pP_1 S O x y ⟨by assumption, by assumption, by assumption⟩).1, (pP_1 S O x y ⟨by assumption, by assumption, by assumption⟩).2]; exact hD) | (rw [(pP_2 S O x y (by first | exact Or.inl (by assumption) | exact Or.inr (Or.inl (by assumption)) | exact Or.inr (Or.inr (by assumption)))).1, (pP_2 S O x y (by first | exact Or.inl (by assumption) | exact Or.inr (Or.inl (by assumption)) | exact Or.inr (Or.inr (by assumption)))).2]; exact hD))
      exact e_rwi hx hb hr hlocks hS (by first | exact pPW_1 S x y (by assumption) (by assumption) | exact pPW_2 S x y (Or.inl (by assumption)) | exact pPW_2 S x y (Or.inr (by assumption))) hP9 hD9 dX7_playWhistle_15
