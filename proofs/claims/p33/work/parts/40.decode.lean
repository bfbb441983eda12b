/-! WhistleTunes: decode, keyOf, teach (pure), then their contracts (printed by wip/p33/s40.py) -/
theorem tG_ms (S : Nat → Nat → Int32) (tl : Nat → Nat) (m e : Nat) : (tG S tl m).2.1 e = -1 ∨ ∃ k : Nat, k < m ∧ (tG S tl m).2.1 e = nI k := by
  induction m with
  | zero => exact Or.inl rfl
  | succ m ih =>
    have ih2 : (tG S tl m).2.1 e = -1 ∨ ∃ k : Nat, k < m + 1 ∧ (tG S tl m).2.1 e = nI k := ih.imp id (fun ⟨k, h1, h2⟩ => ⟨k, by omega, h2⟩)
    rcases Nat.eq_zero_or_pos (tl m) with h | h
    · rw [tG_2 (by omega)]; exact ih2
    · rw [tG_1 h]
      show upd (tG S tl m).2.1 (tAd S m (tG S tl m).1 (tG S tl m).2.2 (tl m)).2.2 (nI m) e = -1 ∨ ∃ k : Nat, k < m + 1 ∧ upd (tG S tl m).2.1 (tAd S m (tG S tl m).1 (tG S tl m).2.2 (tl m)).2.2 (nI m) e = nI k
      by_cases he : e = (tAd S m (tG S tl m).1 (tG S tl m).2.2 (tl m)).2.2
      · rw [← he, pk_us]; exact Or.inr ⟨m, by omega, rfl⟩
      · rw [pk_un he]; exact ih2
theorem mOf_ms {ch : Nat → Nat} {ms : Nat → Int32} {sh : Nat → Nat} {N : Nat} (h : ∀ e, ms e = -1 ∨ ∃ k : Nat, k < N ∧ ms e = nI k) : ∀ j nd k, mOf ch ms sh j nd k = -1 ∨ ∃ i : Nat, i < N ∧ mOf ch ms sh j nd k = nI i := by
  intro j
  induction j with
  | zero => intro nd k; exact h nd
  | succ j ih => intro nd k; simp only [mOf]; split; exact Or.inl rfl; exact ih _ _
theorem pMS_n (S : Nat → Nat → Int32) (tl : Nat → Nat) (U : Nat → Nat → Int32) (nt : Nat) (h : ¬ pMS S tl U nt = -1) : pMS S tl U nt = nI (nOf (pMS S tl U nt)) ∧ nOf (pMS S tl U nt) < 20 := by
  have h2 : pMS S tl U nt = -1 ∨ ∃ i : Nat, i < 20 ∧ pMS S tl U nt = nI i := by
    unfold pMS
    split
    · exact mOf_ms (tG_ms S tl 20) _ _ _
    · exact Or.inl rfl
  rcases h2 with h2 | ⟨i, hi, h2⟩
  · exact absurd h2 h
  · rw [h2, nOf_n (by omega)]; exact ⟨rfl, hi⟩
def pDT (S : Nat → Nat → Int32) (tl : Nat → Nat) (U : Nat → Nat → Int32) (nt : Nat) (y : Int32) : Int32 := if pMS S tl U nt = -1 then -1 else if pFM (U 1 0 - S 7 (nOf (pMS S tl U nt) * 8)) (nI 7) = y then pMS S tl U nt else -1
theorem pDT_1 (S : Nat → Nat → Int32) (tl : Nat → Nat) (U : Nat → Nat → Int32) (nt : Nat) (y : Int32) (h : pMS S tl U nt = -1) : -1 = pDT S tl U nt y := (if_pos h).symm
theorem pDT_2 (S : Nat → Nat → Int32) (tl : Nat → Nat) (U : Nat → Nat → Int32) (nt : Nat) (y : Int32) (h : ¬ pMS S tl U nt = -1) (h2 : pFM (U 1 0 - S 7 (nOf (pMS S tl U nt) * 8)) (nI 7) = y) : pMS S tl U nt = pDT S tl U nt y := ((if_neg h).trans (if_pos h2)).symm
theorem pDT_3 (S : Nat → Nat → Int32) (tl : Nat → Nat) (U : Nat → Nat → Int32) (nt : Nat) (y : Int32) (h : ¬ pMS S tl U nt = -1) (h2 : ¬ pFM (U 1 0 - S 7 (nOf (pMS S tl U nt) * 8)) (nI 7) = y) : -1 = pDT S tl U nt y := ((if_neg h).trans (if_neg h2)).symm
def pKO (S : Nat → Nat → Int32) (tl : Nat → Nat) (U : Nat → Nat → Int32) (nt : Nat) : Int32 := if pMS S tl U nt = -1 then -1 else pFM (U 1 0 - S 7 (nOf (pMS S tl U nt) * 8)) (nI 7)
theorem pKO_1 (S : Nat → Nat → Int32) (tl : Nat → Nat) (U : Nat → Nat → Int32) (nt : Nat) (h : pMS S tl U nt = -1) : -1 = pKO S tl U nt := (if_pos h).symm
theorem pKO_2 (S : Nat → Nat → Int32) (tl : Nat → Nat) (U : Nat → Nat → Int32) (nt : Nat) (h : ¬ pMS S tl U nt = -1) : pFM (U 1 0 - S 7 (nOf (pMS S tl U nt) * 8)) (nI 7) = pKO S tl U nt := (if_neg h).symm
def pIW (S : Nat → Nat → Int32) (tl : Nat → Nat) (U : Nat → Nat → Int32) (nt m : Nat) (y : Int32) : Bool := decide (nt = tl m ∧ ∀ j : Nat, j < nt → U 1 j = iRem (S 7 (m * 8 + j) + y) (nI 7))
theorem pIW_1 (S : Nat → Nat → Int32) (tl : Nat → Nat) (U : Nat → Nat → Int32) (nt m : Nat) (y : Int32) (h : ¬ nt = tl m) : pIW S tl U nt m y = false := decide_eq_false (fun q => h q.1)
theorem pIW_2 (S : Nat → Nat → Int32) (tl : Nat → Nat) (U : Nat → Nat → Int32) (nt m : Nat) (y : Int32) {k : Nat} (hk : k < nt) (h : ¬ U 1 k = iRem (S 7 (m * 8 + k) + y) (nI 7)) : pIW S tl U nt m y = false := decide_eq_false (fun q => h (q.2 k hk))
theorem pIW_3 (S : Nat → Nat → Int32) (tl : Nat → Nat) (U : Nat → Nat → Int32) (nt m : Nat) (y : Int32) (h : nt = tl m) (h2 : ∀ j : Nat, j < nt → U 1 j = iRem (S 7 (m * 8 + j) + y) (nI 7)) : pIW S tl U nt m y = true := decide_eq_true ⟨h, h2⟩
theorem all_s {P : Nat → Prop} {k : Nat} (h : ∀ j : Nat, j < k → P j) (hk : P k) : ∀ j : Nat, j < k + 1 → P j := fun j hj => by
  rcases Nat.lt_or_ge j k with h1 | h1
  · exact h j h1
  · have e : j = k := by omega
    rw [e]; exact hk
def pDM (S : Nat → Nat → Int32) (tl : Nat → Nat) (U : Nat → Nat → Int32) (nt : Nat) (y : Int32) : Int32 := if decide (2 ≤ nt ∧ nt ≤ 8) = true then (if nFind (fun m => pIW S tl U nt m y) 20 0 < 20 then nI (nFind (fun m => pIW S tl U nt m y) 20 0) else -1) else -1
theorem pDM_1 (S : Nat → Nat → Int32) (tl : Nat → Nat) (U : Nat → Nat → Int32) (nt : Nat) (y : Int32) (h : decide (2 ≤ nt ∧ nt ≤ 8) = false) : -1 = pDM S tl U nt y := (if_neg (by rw [h]; decide)).symm
theorem pDM_2 (S : Nat → Nat → Int32) (tl : Nat → Nat) (U : Nat → Nat → Int32) (nt : Nat) (y : Int32) {k : Nat} (h : decide (2 ≤ nt ∧ nt ≤ 8) = true) (hk : k < 20) (h2 : nFind (fun m => pIW S tl U nt m y) 20 0 = k) : nI k = pDM S tl U nt y := by
  unfold pDM
  rw [if_pos h, h2, if_pos hk]
theorem pDM_3 (S : Nat → Nat → Int32) (tl : Nat → Nat) (U : Nat → Nat → Int32) (nt : Nat) (y : Int32) (h : decide (2 ≤ nt ∧ nt ≤ 8) = true) (h2 : nFind (fun m => pIW S tl U nt m y) 20 0 = 20) : -1 = pDM S tl U nt y := by
  unfold pDM
  rw [if_pos h, h2]; rfl

set_option maxHeartbeats 4000000 in
set_option maxRecDepth 100000 in
theorem c_X7_decodeByTree (l : Launch) (G : va_G) (T : Nat → ClassId) (sz : Nat) (w : Nat → Nat) (q : Nat → Nat) (qz : Nat → Nat) (h : Nat → Nat) (t : Nat → Nat) (gr : Nat → Nat) (u : Nat → Nat) (tr : Nat → Nat) (oc : Nat → Nat) (Sw : Nat → Nat → Int32) (S : Nat → Nat → Int32) (U : Nat → Nat → Int32) (K : Nat → Nat → Int32) (tl : Nat → Nat) (nt : Nat) (y : Int32) (hnt : U 0 2 = nI nt) (hnt9 : nt ≤ 9) (htl : ∀ i : Nat, i < 20 → S 6 i = nI (tl i)) (htl8 : ∀ i : Nat, i < 20 → tl i ≤ 8) : RWi l yX7_decodeByTree wsX7_decodeByTree 6 0 0 G T sz (oX7 w q qz h t gr u tr oc Sw ++ oX3 T q S ++ oX6 T u U ++ oX4 T tr K) [.ref (w 0), .int y] (pDT S tl U nt y) (oX7 w q qz h t gr u tr oc Sw ++ oX3 T q S ++ oX6 T u U ++ oX4 T tr (gTO K S tl nt)) := by
  refine Met.ofW (cc := cX7_decodeByTree) (maxL := 3) (ret := (some .int)) (by decide) rfl ?_
  intro p e s m args below meth c s₁ B hml hv
  obtain ⟨ha, hsz, hP, hK, hD0, hE0⟩ := hv
  have hx := B.exec
  have hb := B.bytes
  have hr := B.returns
  have hlocks := B.notSynchronized
  have hts := atoms_spec (ws := wsX7_decodeByTree) B.pre
  have hown : s.vm.findClass RX7 = some m.cls := findClass_of_methodNamed B.named
  have cx : CallFix p m c cX7_decodeByTree 3 s args wsX7_decodeByTree RX7 := ⟨hx, hb, hml, hown, hts⟩
  subst hsz
  have hD := hD0.self (sz := s.heap.size)
  generalize hAe : va_A (oX7 w q qz h t gr u tr oc Sw ++ oX3 T q S ++ oX6 T u U ++ oX4 T tr K) s.heap.size = A at hD hE0 ⊢
  have hE : gE A s s.heap := hE0
  have hA : ∀ q : Nat, s.heap.size ≤ q → A q := fun q h => by rw [← hAe]; exact Or.inr h
  have hS : va_S A s.heap s.heap [] := va_S.rf
  refine w_entry ha (Nat.le_of_ble_eq_true rfl) (fun ls hl => ?_)
  refine w_q (fun Q0 hQ => ?_)
  have hl : lv_has ls 3 [(0, .ref (w 0)), (1, .int y)] := hl
  have hP : va_P G vwCl [(w 0, .inr (7, [.ref (q 0), .ref (qz 0), .ref (h 0), .ref (t 0), .ref (gr 0), .ref (u 0), .ref (tr 0), .ref (oc 0), .int (Sw 0 8)])), (q 0, .inr (3, [.int (S 0 0), .int (S 0 1), .int (S 0 2), .int (S 0 3), .ref (q 5), .ref (q 6), .ref (q 7), .ref (q 8), .ref (q 9), .ref (q 10), .ref (q 11), .ref (q 12), .ref (q 13), .ref (q 14), .ref (q 15), .ref (q 16)])), (q 5, .inl (T 0, 2, .inl (S 5))), (q 6, .inl (T 0, 20, .inl (S 6))), (q 7, .inl (T 0, 160, .inl (S 7))), (q 8, .inl (T 0, 20, .inl (S 8))), (q 9, .inl (T 0, 20, .inl (S 9))), (q 10, .inl (T 0, 20, .inl (S 10))), (q 11, .inl (T 0, 6, .inl (S 11))), (q 12, .inl (T 0, 6, .inl (S 12))), (q 13, .inl (T 0, 6, .inl (S 13))), (q 14, .inl (T 0, 6, .inl (S 14))), (q 15, .inl (T 0, 6, .inl (S 15))), (q 16, .inl (T 0, 2, .inl (S 16))), (u 0, .inr (6, [.ref (u 1), .ref (u 2), .int (U 0 2)])), (u 1, .inl (T 0, 9, .inl (U 1))), (u 2, .inl (T 0, 3, .inl (U 2))), (tr 0, .inr (4, [.ref (tr 1), .ref (tr 2), .int (K 0 2)])), (tr 1, .inl (T 0, 1127, .inl (K 1))), (tr 2, .inl (T 0, 161, .inl (K 2)))] s.heap := hP
  have hD : va_D A [(w 0, .inr (7, [.ref (q 0), .ref (qz 0), .ref (h 0), .ref (t 0), .ref (gr 0), .ref (u 0), .ref (tr 0), .ref (oc 0), .int (Sw 0 8)])), (q 0, .inr (3, [.int (S 0 0), .int (S 0 1), .int (S 0 2), .int (S 0 3), .ref (q 5), .ref (q 6), .ref (q 7), .ref (q 8), .ref (q 9), .ref (q 10), .ref (q 11), .ref (q 12), .ref (q 13), .ref (q 14), .ref (q 15), .ref (q 16)])), (q 5, .inl (T 0, 2, .inl (S 5))), (q 6, .inl (T 0, 20, .inl (S 6))), (q 7, .inl (T 0, 160, .inl (S 7))), (q 8, .inl (T 0, 20, .inl (S 8))), (q 9, .inl (T 0, 20, .inl (S 9))), (q 10, .inl (T 0, 20, .inl (S 10))), (q 11, .inl (T 0, 6, .inl (S 11))), (q 12, .inl (T 0, 6, .inl (S 12))), (q 13, .inl (T 0, 6, .inl (S 13))), (q 14, .inl (T 0, 6, .inl (S 14))), (q 15, .inl (T 0, 6, .inl (S 15))), (q 16, .inl (T 0, 2, .inl (S 16))), (u 0, .inr (6, [.ref (u 1), .ref (u 2), .int (U 0 2)])), (u 1, .inl (T 0, 9, .inl (U 1))), (u 2, .inl (T 0, 3, .inl (U 2))), (tr 0, .inr (4, [.ref (tr 1), .ref (tr 2), .int (K 0 2)])), (tr 1, .inl (T 0, 1127, .inl (K 1))), (tr 2, .inl (T 0, 161, .inl (K 2)))] := hD
  skip
  refine w_h (fun H locs hHe hLe => ?_)
  have hP : va_P G vwCl [(w 0, .inr (7, [.ref (q 0), .ref (qz 0), .ref (h 0), .ref (t 0), .ref (gr 0), .ref (u 0), .ref (tr 0), .ref (oc 0), .int (Sw 0 8)])), (q 0, .inr (3, [.int (S 0 0), .int (S 0 1), .int (S 0 2), .int (S 0 3), .ref (q 5), .ref (q 6), .ref (q 7), .ref (q 8), .ref (q 9), .ref (q 10), .ref (q 11), .ref (q 12), .ref (q 13), .ref (q 14), .ref (q 15), .ref (q 16)])), (q 5, .inl (T 0, 2, .inl (S 5))), (q 6, .inl (T 0, 20, .inl (S 6))), (q 7, .inl (T 0, 160, .inl (S 7))), (q 8, .inl (T 0, 20, .inl (S 8))), (q 9, .inl (T 0, 20, .inl (S 9))), (q 10, .inl (T 0, 20, .inl (S 10))), (q 11, .inl (T 0, 6, .inl (S 11))), (q 12, .inl (T 0, 6, .inl (S 12))), (q 13, .inl (T 0, 6, .inl (S 13))), (q 14, .inl (T 0, 6, .inl (S 14))), (q 15, .inl (T 0, 6, .inl (S 15))), (q 16, .inl (T 0, 2, .inl (S 16))), (u 0, .inr (6, [.ref (u 1), .ref (u 2), .int (U 0 2)])), (u 1, .inl (T 0, 9, .inl (U 1))), (u 2, .inl (T 0, 3, .inl (U 2))), (tr 0, .inr (4, [.ref (tr 1), .ref (tr 2), .int (K 0 2)])), (tr 1, .inl (T 0, 1127, .inl (K 1))), (tr 2, .inl (T 0, 161, .inl (K 2)))] H := by rw [hHe]; exact hP
  have hS : va_S A s.heap H locs := by rw [hHe, hLe]; exact hS
  refine lv_aload_n hx hb dX7_decodeByTree_0 rfl (lv_at hl 0 rfl) ?_
  refine k_rwV (As := []) (rest := []) (wc := oX7 w q qz h t gr u tr oc Sw ++ oX3 T q S ++ oX6 T u U ++ oX4 T tr K) (wr := []) (w1 := oX7 w q qz h t gr u tr oc Sw ++ oX3 T q S ++ oX6 T u U ++ oX4 T tr (gTO K S tl nt)) (d := 5) (mc := 0) (ms := 0) (v := pMS S tl U nt) (isC := [0, 1, 2, 3, 4, 5, 6, 7, 8, 9, 10, 11, 12, 13, 14, 15, 16, 17, 18, 19]) (isR := []) cx (c_X7_messageOfShape l G T H.size w q qz h t gr u tr oc Sw S U K tl nt hnt (by omega) htl htl8) (cwV 0 hts gX7_decodeByTree_X7_messageOfShape rfl rfl rfl (by decide +kernel) ⟨Nat.le_of_ble_eq_true rfl, Nat.le_of_ble_eq_true rfl⟩) ⟨hP, hD, hS, hA, hE, hK, rfl, rfl, rfl, rfl, by decide⟩ (va_recv hK hP (ci := 7) (q0 := 0) rfl rfl) rfl hl.1 rfl (Nat.le_of_ble_eq_true rfl) dX7_decodeByTree_1 ⟨Nat.le_of_ble_eq_true rfl, Nat.le_of_ble_eq_true rfl⟩ (fun H locs hP hD hS hz => ?_)
  have hP : va_P G vwCl [(w 0, .inr (7, [.ref (q 0), .ref (qz 0), .ref (h 0), .ref (t 0), .ref (gr 0), .ref (u 0), .ref (tr 0), .ref (oc 0), .int (Sw 0 8)])), (q 0, .inr (3, [.int (S 0 0), .int (S 0 1), .int (S 0 2), .int (S 0 3), .ref (q 5), .ref (q 6), .ref (q 7), .ref (q 8), .ref (q 9), .ref (q 10), .ref (q 11), .ref (q 12), .ref (q 13), .ref (q 14), .ref (q 15), .ref (q 16)])), (q 5, .inl (T 0, 2, .inl (S 5))), (q 6, .inl (T 0, 20, .inl (S 6))), (q 7, .inl (T 0, 160, .inl (S 7))), (q 8, .inl (T 0, 20, .inl (S 8))), (q 9, .inl (T 0, 20, .inl (S 9))), (q 10, .inl (T 0, 20, .inl (S 10))), (q 11, .inl (T 0, 6, .inl (S 11))), (q 12, .inl (T 0, 6, .inl (S 12))), (q 13, .inl (T 0, 6, .inl (S 13))), (q 14, .inl (T 0, 6, .inl (S 14))), (q 15, .inl (T 0, 6, .inl (S 15))), (q 16, .inl (T 0, 2, .inl (S 16))), (u 0, .inr (6, [.ref (u 1), .ref (u 2), .int (U 0 2)])), (u 1, .inl (T 0, 9, .inl (U 1))), (u 2, .inl (T 0, 3, .inl (U 2))), (tr 0, .inr (4, [.ref (tr 1), .ref (tr 2), .int ((gTO K S tl nt) 0 2)])), (tr 1, .inl (T 0, 1127, .inl ((gTO K S tl nt) 1))), (tr 2, .inl (T 0, 161, .inl ((gTO K S tl nt) 2)))] H := hP
  have hD : va_D A [(w 0, .inr (7, [.ref (q 0), .ref (qz 0), .ref (h 0), .ref (t 0), .ref (gr 0), .ref (u 0), .ref (tr 0), .ref (oc 0), .int (Sw 0 8)])), (q 0, .inr (3, [.int (S 0 0), .int (S 0 1), .int (S 0 2), .int (S 0 3), .ref (q 5), .ref (q 6), .ref (q 7), .ref (q 8), .ref (q 9), .ref (q 10), .ref (q 11), .ref (q 12), .ref (q 13), .ref (q 14), .ref (q 15), .ref (q 16)])), (q 5, .inl (T 0, 2, .inl (S 5))), (q 6, .inl (T 0, 20, .inl (S 6))), (q 7, .inl (T 0, 160, .inl (S 7))), (q 8, .inl (T 0, 20, .inl (S 8))), (q 9, .inl (T 0, 20, .inl (S 9))), (q 10, .inl (T 0, 20, .inl (S 10))), (q 11, .inl (T 0, 6, .inl (S 11))), (q 12, .inl (T 0, 6, .inl (S 12))), (q 13, .inl (T 0, 6, .inl (S 13))), (q 14, .inl (T 0, 6, .inl (S 14))), (q 15, .inl (T 0, 6, .inl (S 15))), (q 16, .inl (T 0, 2, .inl (S 16))), (u 0, .inr (6, [.ref (u 1), .ref (u 2), .int (U 0 2)])), (u 1, .inl (T 0, 9, .inl (U 1))), (u 2, .inl (T 0, 3, .inl (U 2))), (tr 0, .inr (4, [.ref (tr 1), .ref (tr 2), .int ((gTO K S tl nt) 0 2)])), (tr 1, .inl (T 0, 1127, .inl ((gTO K S tl nt) 1))), (tr 2, .inl (T 0, 161, .inl ((gTO K S tl nt) 2)))] := hD
  refine lv_istore_n (lv' := [(2, .int (pMS S tl U nt)), (0, .ref (w 0)), (1, .int y)]) hx hb dX7_decodeByTree_4 rfl hl (by decide) rfl (fun ls hl => ?_)
  refine lv_iload_n hx hb dX7_decodeByTree_5 rfl (lv_at hl 0 rfl) ?_
  refine lv_iconst (v := -1) hx hb dX7_decodeByTree_6 (by decide) ?_
  refine lv_icmp_eq (tgt := 23) hx hb dX7_decodeByTree_7 (by decide) (fun c_1 => ?_) (fun c_2 => ?_)
  · skip
    refine lv_iconst (v := -1) hx hb dX7_decodeByTree_23 (by decide) ?_
    subst hQ
    have hP9 : va_P G vwCl (oX7 w q qz h t gr u tr oc Sw ++ oX3 T q S ++ oX6 T u U ++ oX4 T tr (gTO K S tl nt)) H := hP
    have hD9 : va_D A (oX7 w q qz h t gr u tr oc Sw ++ oX3 T q S ++ oX6 T u U ++ oX4 T tr (gTO K S tl nt)) := hD
    exact e_rwi hx hb hr hlocks hS (by first | exact pDT_1 S tl U nt y (by assumption) | exact pDT_2 S tl U nt y (by assumption) (by assumption) | exact pDT_3 S tl U nt y (by assumption) (by assumption)) hP9 hD9 dX7_decodeByTree_24
  · skip
    refine lv_aload_n hx hb dX7_decodeByTree_10 rfl (lv_at hl 1 rfl) ?_
    refine lv_iload_n hx hb dX7_decodeByTree_11 rfl (lv_at hl 0 rfl) ?_
    refine n_top (y := nI (nOf (pMS S tl U nt))) (pMS_n S tl U nt (by assumption)).1 ?_
    refine k_roV (As := [.int (nI (nOf (pMS S tl U nt)))]) (rest := []) (wc := oX7 w q qz h t gr u tr oc Sw ++ oX3 T q S ++ oX6 T u U) (d := 1) (v := pFM ((U 1) 0 - (S 7) ((nOf (pMS S tl U nt)) * 8)) (nI 7)) cx (c_X7_keyBetween l G T A w q qz h t gr u tr oc Sw S U (nOf (pMS S tl U nt)) (pMS_n S tl U nt (by assumption)).2) (cwV 1 hts gX7_decodeByTree_X7_keyBetween rfl rfl rfl (by decide +kernel) ⟨Nat.le_of_ble_eq_true rfl, Nat.le_of_ble_eq_true rfl⟩) (hP.sub (ws' := oX7 w q qz h t gr u tr oc Sw ++ oX3 T q S ++ oX6 T u U) [0, 1, 2, 3, 4, 5, 6, 7, 8, 9, 10, 11, 12, 13, 14, 15, 16] rfl) hK (hE.kept hS.2.1) (va_recv hK hP (ci := 7) (q0 := 0) rfl rfl) rfl hl.1 rfl (Nat.le_of_ble_eq_true rfl) dX7_decodeByTree_12 ⟨Nat.le_of_ble_eq_true rfl, Nat.le_of_ble_eq_true rfl⟩ ?_
    refine lv_iload_n hx hb dX7_decodeByTree_15 rfl (lv_at hl 2 rfl) ?_
    refine lv_icmp_ne (tgt := 23) hx hb dX7_decodeByTree_16 (by decide) (fun c_3 => ?_) (fun c_4 => ?_)
    · skip
      refine lv_iconst (v := -1) hx hb dX7_decodeByTree_23 (by decide) ?_
      subst hQ
      have hP9 : va_P G vwCl (oX7 w q qz h t gr u tr oc Sw ++ oX3 T q S ++ oX6 T u U ++ oX4 T tr (gTO K S tl nt)) H := hP
      have hD9 : va_D A (oX7 w q qz h t gr u tr oc Sw ++ oX3 T q S ++ oX6 T u U ++ oX4 T tr (gTO K S tl nt)) := hD
      exact e_rwi hx hb hr hlocks hS (by first | exact pDT_1 S tl U nt y (by assumption) | exact pDT_2 S tl U nt y (by assumption) (by assumption) | exact pDT_3 S tl U nt y (by assumption) (by assumption)) hP9 hD9 dX7_decodeByTree_24
    · skip
      refine lv_iload_n hx hb dX7_decodeByTree_19 rfl (lv_at hl 0 rfl) ?_
      refine lv_goto (tgt := 24) hx hb dX7_decodeByTree_20 (by decide) ?_
      subst hQ
      have hP9 : va_P G vwCl (oX7 w q qz h t gr u tr oc Sw ++ oX3 T q S ++ oX6 T u U ++ oX4 T tr (gTO K S tl nt)) H := hP
      have hD9 : va_D A (oX7 w q qz h t gr u tr oc Sw ++ oX3 T q S ++ oX6 T u U ++ oX4 T tr (gTO K S tl nt)) := hD
      exact e_rwi hx hb hr hlocks hS (by first | exact pDT_1 S tl U nt y (by assumption) | exact pDT_2 S tl U nt y (by assumption) (by assumption) | exact pDT_3 S tl U nt y (by assumption) (by assumption)) hP9 hD9 dX7_decodeByTree_24
set_option maxHeartbeats 4000000 in
set_option maxRecDepth 100000 in
theorem c_X7_isWhistledAs (l : Launch) (G : va_G) (T : Nat → ClassId) (A : Nat → Prop) (w : Nat → Nat) (q : Nat → Nat) (qz : Nat → Nat) (h : Nat → Nat) (t : Nat → Nat) (gr : Nat → Nat) (u : Nat → Nat) (tr : Nat → Nat) (oc : Nat → Nat) (Sw : Nat → Nat → Int32) (S : Nat → Nat → Int32) (U : Nat → Nat → Int32) (tl : Nat → Nat) (nt : Nat) (mm : Nat) (y : Int32) (hnt : U 0 2 = nI nt) (hnt9 : nt ≤ 9) (htl : ∀ i : Nat, i < 20 → S 6 i = nI (tl i)) (htl8 : ∀ i : Nat, i < 20 → tl i ≤ 8) (hm20 : mm < 20) : RO l yX7_isWhistledAs wsX7_isWhistledAs 1 G T A (oX7 w q qz h t gr u tr oc Sw ++ oX3 T q S ++ oX6 T u U) [.ref (w 0), .int (nI mm), .int y] (bI (pIW S tl U nt mm y)) := by
  refine Met.ofW (cc := cX7_isWhistledAs) (maxL := 4) (ret := (some .boolean)) (by decide) rfl ?_
  intro p e s m args below meth c s₁ B hml hv
  obtain ⟨ha, hP, hK, hE⟩ := hv
  have hx := B.exec
  have hb := B.bytes
  have hr := B.returns
  have hlocks := B.notSynchronized
  have hts := atoms_spec (ws := wsX7_isWhistledAs) B.pre
  have hown : s.vm.findClass RX7 = some m.cls := findClass_of_methodNamed B.named
  have cx : CallFix p m c cX7_isWhistledAs 4 s args wsX7_isWhistledAs RX7 := ⟨hx, hb, hml, hown, hts⟩
  refine w_entry ha (Nat.le_of_ble_eq_true rfl) (fun ls hl => ?_)
  refine w_q (fun Q0 hQ => ?_)
  have lk43 := hts (.fieldLink RX7 43 "WhistleTunes" "tune" "LWhistleTunes$Tune;") (by decide +kernel)
  have hinX7 : ∀ w ∈ wsX70, w ∈ wsX7_isWhistledAs := by decide +kernel
  have lk105 := hts (.fieldLink RX7 105 "WhistleTunes$Tune" "length" "I") (by decide +kernel)
  have hinX6 : ∀ w ∈ wsX60, w ∈ wsX7_isWhistledAs := by decide +kernel
  have lk10 := hts (.fieldLink RX7 10 "WhistleTunes" "school" "LWhistleTunes$School;") (by decide +kernel)
  have lk109 := hts (.fieldLink RX7 109 "WhistleTunes$School" "tuneLengths" "[I") (by decide +kernel)
  have hinX3 : ∀ w ∈ wsX30, w ∈ wsX7_isWhistledAs := by decide +kernel
  have lk373 := hts (.fieldLink RX7 373 "WhistleTunes$Tune" "notes" "[I") (by decide +kernel)
  have hl : lv_has ls 4 [(0, .ref (w 0)), (1, .int (nI mm)), (2, .int y)] := hl
  have hP : va_P G vwCl [(w 0, .inr (7, [.ref (q 0), .ref (qz 0), .ref (h 0), .ref (t 0), .ref (gr 0), .ref (u 0), .ref (tr 0), .ref (oc 0), .int (Sw 0 8)])), (q 0, .inr (3, [.int (S 0 0), .int (S 0 1), .int (S 0 2), .int (S 0 3), .ref (q 5), .ref (q 6), .ref (q 7), .ref (q 8), .ref (q 9), .ref (q 10), .ref (q 11), .ref (q 12), .ref (q 13), .ref (q 14), .ref (q 15), .ref (q 16)])), (q 5, .inl (T 0, 2, .inl (S 5))), (q 6, .inl (T 0, 20, .inl (S 6))), (q 7, .inl (T 0, 160, .inl (S 7))), (q 8, .inl (T 0, 20, .inl (S 8))), (q 9, .inl (T 0, 20, .inl (S 9))), (q 10, .inl (T 0, 20, .inl (S 10))), (q 11, .inl (T 0, 6, .inl (S 11))), (q 12, .inl (T 0, 6, .inl (S 12))), (q 13, .inl (T 0, 6, .inl (S 13))), (q 14, .inl (T 0, 6, .inl (S 14))), (q 15, .inl (T 0, 6, .inl (S 15))), (q 16, .inl (T 0, 2, .inl (S 16))), (u 0, .inr (6, [.ref (u 1), .ref (u 2), .int (U 0 2)])), (u 1, .inl (T 0, 9, .inl (U 1))), (u 2, .inl (T 0, 3, .inl (U 2)))] s.heap := hP
  have htm := htl8 mm hm20
  refine lv_aload_n hx hb dX7_isWhistledAs_0 rfl (lv_at hl 0 rfl) ?_
  refine va_get (D := G) (ci := 7) (v := .ref (u 0)) (C := RX7) (T := TX7) (N := 9) hx hb hts hinX7 hown hK hP 0 rfl rfl 5 (by decide) lk43 (fun _ h9 => h9) rfl dX7_isWhistledAs_1 ?_
  refine va_get (D := G) (ci := 6) (v := .int (U 0 2)) (C := RX6) (T := TX6) (N := 3) hx hb hts hinX6 hown hK hP 14 rfl rfl 2 (by decide) lk105 (fun _ h9 => h9) rfl dX7_isWhistledAs_4 ?_
  refine n_top (y := nI nt) hnt ?_
  refine lv_aload_n hx hb dX7_isWhistledAs_7 rfl (lv_at hl 0 rfl) ?_
  refine va_get (D := G) (ci := 7) (v := .ref (q 0)) (C := RX7) (T := TX7) (N := 9) hx hb hts hinX7 hown hK hP 0 rfl rfl 0 (by decide) lk10 (fun _ h9 => h9) rfl dX7_isWhistledAs_8 ?_
  refine va_get (D := G) (ci := 3) (v := .ref (q 6)) (C := RX3) (T := TX3) (N := 16) hx hb hts hinX3 hown hK hP 1 rfl rfl 5 (by decide) lk109 (fun _ h9 => h9) rfl dX7_isWhistledAs_11 ?_
  refine lv_iload_n hx hb dX7_isWhistledAs_14 rfl (lv_at hl 1 rfl) ?_
  refine n_iald hx hb hK hP 3 0 rfl rfl mm (by omega) (by decide) dX7_isWhistledAs_15 ?_
  refine n_top (y := nI (tl mm)) (htl mm hm20) ?_
  refine n_icmp_eq (a := nt) (b := tl mm) (tgt := 21) hx hb (by omega) (by omega) dX7_isWhistledAs_16 (by decide) (fun c_1 => ?_) (fun c_2 => ?_)
  · skip
    refine n_iconst hx hb 0 dX7_isWhistledAs_21 (by decide) ?_
    refine lv_istore_n (lv' := [(3, .int (nI 0)), (0, .ref (w 0)), (1, .int (nI mm)), (2, .int y)]) hx hb dX7_isWhistledAs_22 rfl hl (by decide) rfl (fun ls hl => ?_)
    have L23 : ∀ (n9 k : Nat) (hk1 : k ≤ nt) (hk2 : nt - k < n9) (hal : ∀ j : Nat, j < k → U 1 j = iRem (S 7 (mm * 8 + j) + y) (nI 7)) (x3 : Int32) (hx3 : x3 = nI k) (ls : Array Slot) (hl : lv_has ls 4 [(3, .int x3), (0, .ref (w 0)), (1, .int (nI mm)), (2, .int y)]), W p l e (headSpec wsX7_isWhistledAs (rmD 1 0 0)).room s m args below meth c s.heap [] 0 0 Q0 (F0 m 23 ls []) := by
      intro n9
      induction n9 with
      | zero => intros; omega
      | succ n9 ih23 =>
        intro k hk1 hk2 hal x3 hx3 ls hl
        subst hx3
        refine lv_iload_n hx hb dX7_isWhistledAs_23 rfl (lv_at hl 0 rfl) ?_
        refine lv_aload_n hx hb dX7_isWhistledAs_24 rfl (lv_at hl 1 rfl) ?_
        refine va_get (D := G) (ci := 7) (v := .ref (u 0)) (C := RX7) (T := TX7) (N := 9) hx hb hts hinX7 hown hK hP 0 rfl rfl 5 (by decide) lk43 (fun _ h9 => h9) rfl dX7_isWhistledAs_25 ?_
        refine va_get (D := G) (ci := 6) (v := .int (U 0 2)) (C := RX6) (T := TX6) (N := 3) hx hb hts hinX6 hown hK hP 14 rfl rfl 2 (by decide) lk105 (fun _ h9 => h9) rfl dX7_isWhistledAs_28 ?_
        refine n_top (y := nI nt) hnt ?_
        refine n_icmp_ge (a := k) (b := nt) (tgt := 68) hx hb (by omega) (by omega) dX7_isWhistledAs_31 (by decide) (fun c_3 => ?_) (fun c_4 => ?_)
        · skip
          refine n_iconst hx hb 1 dX7_isWhistledAs_68 (by decide) ?_
          subst hQ
          exact e_roz hx hb hr hlocks (by first | rfl | exact nar_b _) (by obtain rfl : k = nt := (by omega); rw [pIW_3 S tl U k mm y (by omega) hal] <;> rfl) dX7_isWhistledAs_69
        · skip
          refine lv_aload_n hx hb dX7_isWhistledAs_34 rfl (lv_at hl 1 rfl) ?_
          refine va_get (D := G) (ci := 7) (v := .ref (u 0)) (C := RX7) (T := TX7) (N := 9) hx hb hts hinX7 hown hK hP 0 rfl rfl 5 (by decide) lk43 (fun _ h9 => h9) rfl dX7_isWhistledAs_35 ?_
          refine va_get (D := G) (ci := 6) (v := .ref (u 1)) (C := RX6) (T := TX6) (N := 3) hx hb hts hinX6 hown hK hP 14 rfl rfl 0 (by decide) lk373 (fun _ h9 => h9) rfl dX7_isWhistledAs_38 ?_
          refine lv_iload_n hx hb dX7_isWhistledAs_41 rfl (lv_at hl 0 rfl) ?_
          refine n_iald hx hb hK hP 15 0 rfl rfl k (by omega) (by decide) dX7_isWhistledAs_42 ?_
          refine lv_aload_n hx hb dX7_isWhistledAs_43 rfl (lv_at hl 1 rfl) ?_
          refine va_get (D := G) (ci := 7) (v := .ref (q 0)) (C := RX7) (T := TX7) (N := 9) hx hb hts hinX7 hown hK hP 0 rfl rfl 0 (by decide) lk10 (fun _ h9 => h9) rfl dX7_isWhistledAs_44 ?_
          refine lv_iload_n hx hb dX7_isWhistledAs_47 rfl (lv_at hl 2 rfl) ?_
          refine lv_iload_n hx hb dX7_isWhistledAs_48 rfl (lv_at hl 0 rfl) ?_
          refine k_roV (As := [.int (nI mm), .int (nI k)]) (rest := [.int ((U 1) k)]) (wc := oX3 T q S) (d := 0) (v := (S 7) (mm * 8 + k)) cx (c_X3_noteAt l G T A q S mm k (by omega) (by omega)) (cwV 2 hts gX7_isWhistledAs_X3_noteAt rfl rfl rfl (by decide +kernel) ⟨Nat.le_of_ble_eq_true rfl, Nat.le_of_ble_eq_true rfl⟩) (hP.sub (ws' := oX3 T q S) [1, 2, 3, 4, 5, 6, 7, 8, 9, 10, 11, 12, 13] rfl) hK hE (va_recv hK hP (ci := 3) (q0 := 1) rfl rfl) rfl hl.1 rfl (Nat.le_of_ble_eq_true rfl) dX7_isWhistledAs_49 ⟨Nat.le_of_ble_eq_true rfl, Nat.le_of_ble_eq_true rfl⟩ ?_
          refine lv_iload_n hx hb dX7_isWhistledAs_52 rfl (lv_at hl 3 rfl) ?_
          refine lv_iadd hx hb dX7_isWhistledAs_53 ?_
          refine lv_bipush (v := nI 7) hx hb dX7_isWhistledAs_54 (by decide) ?_
          refine x_irem hx hb (nI_ne0 (by decide) (by decide)) dX7_isWhistledAs_56 ?_
          refine lv_icmp_eq (tgt := 62) hx hb dX7_isWhistledAs_57 (by decide) (fun c_5 => ?_) (fun c_6 => ?_)
          · skip
            refine lv_iinc (v := nI (k + 1)) (lv' := [(3, .int (nI (k + 1))), (0, .ref (w 0)), (1, .int (nI mm)), (2, .int y)]) hx hb dX7_isWhistledAs_62 hl (k := 0) rfl (n_inc k 1 rfl) (by decide) rfl (fun ls hl => ?_)
            refine lv_goto (tgt := 23) hx hb dX7_isWhistledAs_65 (by decide) ?_
            exact ih23 (k + 1) (by omega) (by omega) (all_s (P := (fun j => U 1 j = iRem (S 7 (mm * 8 + j) + y) (nI 7))) hal (by assumption)) _ rfl _ (lv_sub hl [0, 1, 2, 3] rfl)
          · skip
            refine n_iconst hx hb 0 dX7_isWhistledAs_60 (by decide) ?_
            subst hQ
            exact e_roz hx hb hr hlocks (by first | rfl | exact nar_b _) (by rw [pIW_2 S tl U nt mm y (k := k) (by omega) (by assumption)] <;> rfl) dX7_isWhistledAs_61
    exact L23 (nt + 1) 0 (by omega) (by omega) (fun j hj => absurd hj (Nat.not_lt_zero j)) _ rfl _ (lv_sub hl [0, 1, 2, 3] rfl)
  · skip
    refine n_iconst hx hb 0 dX7_isWhistledAs_19 (by decide) ?_
    subst hQ
    exact e_roz hx hb hr hlocks (by first | rfl | exact nar_b _) (by rw [pIW_1 S tl U nt mm y (by omega)] <;> rfl) dX7_isWhistledAs_20
set_option maxHeartbeats 4000000 in
set_option maxRecDepth 100000 in
theorem c_X7_decodeByMessages (l : Launch) (G : va_G) (T : Nat → ClassId) (A : Nat → Prop) (w : Nat → Nat) (q : Nat → Nat) (qz : Nat → Nat) (h : Nat → Nat) (t : Nat → Nat) (gr : Nat → Nat) (u : Nat → Nat) (tr : Nat → Nat) (oc : Nat → Nat) (Sw : Nat → Nat → Int32) (S : Nat → Nat → Int32) (U : Nat → Nat → Int32) (tl : Nat → Nat) (nt : Nat) (y : Int32) (hnt : U 0 2 = nI nt) (hnt9 : nt ≤ 9) (htl : ∀ i : Nat, i < 20 → S 6 i = nI (tl i)) (htl8 : ∀ i : Nat, i < 20 → tl i ≤ 8) : RO l yX7_decodeByMessages wsX7_decodeByMessages 2 G T A (oX7 w q qz h t gr u tr oc Sw ++ oX3 T q S ++ oX6 T u U) [.ref (w 0), .int y] (pDM S tl U nt y) := by
  refine Met.ofW (cc := cX7_decodeByMessages) (maxL := 3) (ret := (some .int)) (by decide) rfl ?_
  intro p e s m args below meth c s₁ B hml hv
  obtain ⟨ha, hP, hK, hE⟩ := hv
  have hx := B.exec
  have hb := B.bytes
  have hr := B.returns
  have hlocks := B.notSynchronized
  have hts := atoms_spec (ws := wsX7_decodeByMessages) B.pre
  have hown : s.vm.findClass RX7 = some m.cls := findClass_of_methodNamed B.named
  have cx : CallFix p m c cX7_decodeByMessages 3 s args wsX7_decodeByMessages RX7 := ⟨hx, hb, hml, hown, hts⟩
  refine w_entry ha (Nat.le_of_ble_eq_true rfl) (fun ls hl => ?_)
  refine w_q (fun Q0 hQ => ?_)
  have lk43 := hts (.fieldLink RX7 43 "WhistleTunes" "tune" "LWhistleTunes$Tune;") (by decide +kernel)
  have hinX7 : ∀ w ∈ wsX70, w ∈ wsX7_decodeByMessages := by decide +kernel
  have hl : lv_has ls 3 [(0, .ref (w 0)), (1, .int y)] := hl
  have hP : va_P G vwCl [(w 0, .inr (7, [.ref (q 0), .ref (qz 0), .ref (h 0), .ref (t 0), .ref (gr 0), .ref (u 0), .ref (tr 0), .ref (oc 0), .int (Sw 0 8)])), (q 0, .inr (3, [.int (S 0 0), .int (S 0 1), .int (S 0 2), .int (S 0 3), .ref (q 5), .ref (q 6), .ref (q 7), .ref (q 8), .ref (q 9), .ref (q 10), .ref (q 11), .ref (q 12), .ref (q 13), .ref (q 14), .ref (q 15), .ref (q 16)])), (q 5, .inl (T 0, 2, .inl (S 5))), (q 6, .inl (T 0, 20, .inl (S 6))), (q 7, .inl (T 0, 160, .inl (S 7))), (q 8, .inl (T 0, 20, .inl (S 8))), (q 9, .inl (T 0, 20, .inl (S 9))), (q 10, .inl (T 0, 20, .inl (S 10))), (q 11, .inl (T 0, 6, .inl (S 11))), (q 12, .inl (T 0, 6, .inl (S 12))), (q 13, .inl (T 0, 6, .inl (S 13))), (q 14, .inl (T 0, 6, .inl (S 14))), (q 15, .inl (T 0, 6, .inl (S 15))), (q 16, .inl (T 0, 2, .inl (S 16))), (u 0, .inr (6, [.ref (u 1), .ref (u 2), .int (U 0 2)])), (u 1, .inl (T 0, 9, .inl (U 1))), (u 2, .inl (T 0, 3, .inl (U 2)))] s.heap := hP
  refine lv_aload_n hx hb dX7_decodeByMessages_0 rfl (lv_at hl 0 rfl) ?_
  refine va_get (D := G) (ci := 7) (v := .ref (u 0)) (C := RX7) (T := TX7) (N := 9) hx hb hts hinX7 hown hK hP 0 rfl rfl 5 (by decide) lk43 (fun _ h9 => h9) rfl dX7_decodeByMessages_1 ?_
  refine k_roV (As := []) (rest := []) (wc := oX6 T u U) (d := 0) (v := bI (decide (2 ≤ nt ∧ nt ≤ 8))) cx (c_X6_isOfTuneLength l G T A u U nt (by first | assumption | rfl | omega) (by omega)) (cwV 0 hts gX7_decodeByMessages_X6_isOfTuneLength rfl rfl rfl (by decide +kernel) ⟨Nat.le_of_ble_eq_true rfl, Nat.le_of_ble_eq_true rfl⟩) (hP.sub (ws' := oX6 T u U) [14, 15, 16] rfl) hK hE (va_recv hK hP (ci := 6) (q0 := 14) rfl rfl) rfl hl.1 rfl (Nat.le_of_ble_eq_true rfl) dX7_decodeByMessages_4 ⟨Nat.le_of_ble_eq_true rfl, Nat.le_of_ble_eq_true rfl⟩ ?_
  refine b_if_ne (b := decide (2 ≤ nt ∧ nt ≤ 8)) (tgt := 12) hx hb dX7_decodeByMessages_7 (by decide) (fun c_1 => ?_) (fun c_2 => ?_)
  · skip
    refine n_iconst hx hb 0 dX7_decodeByMessages_12 (by decide) ?_
    refine lv_istore_n (lv' := [(2, .int (nI 0)), (0, .ref (w 0)), (1, .int y)]) hx hb dX7_decodeByMessages_13 rfl hl (by decide) rfl (fun ls hl => ?_)
    have L14 : ∀ (n9 k : Nat) (hk1 : k ≤ 20) (hk2 : 20 - k < n9) (hno : nFind (fun m => pIW S tl U nt m y) 20 0 = nFind (fun m => pIW S tl U nt m y) (20 - k) k) (x2 : Int32) (hx2 : x2 = nI k) (ls : Array Slot) (hl : lv_has ls 3 [(2, .int x2), (0, .ref (w 0)), (1, .int y)]), W p l e (headSpec wsX7_decodeByMessages (rmD 2 0 0)).room s m args below meth c s.heap [] 0 0 Q0 (F0 m 14 ls []) := by
      intro n9
      induction n9 with
      | zero => intros; omega
      | succ n9 ih14 =>
        intro k hk1 hk2 hno x2 hx2 ls hl
        subst hx2
        refine lv_iload_n hx hb dX7_decodeByMessages_14 rfl (lv_at hl 0 rfl) ?_
        refine lv_bipush (v := nI 20) hx hb dX7_decodeByMessages_15 (by decide) ?_
        refine n_icmp_ge (a := k) (b := 20) (tgt := 37) hx hb (by omega) (by decide) dX7_decodeByMessages_17 (by decide) (fun c_3 => ?_) (fun c_4 => ?_)
        · skip
          refine lv_iconst (v := -1) hx hb dX7_decodeByMessages_37 (by decide) ?_
          subst hQ
          exact e_ro hx hb hr hlocks (pDM_3 S tl U nt y (by assumption) (by obtain rfl : k = 20 := (by omega); rw [hno]; rfl)) dX7_decodeByMessages_38
        · skip
          refine lv_aload_n hx hb dX7_decodeByMessages_20 rfl (lv_at hl 1 rfl) ?_
          refine lv_iload_n hx hb dX7_decodeByMessages_21 rfl (lv_at hl 0 rfl) ?_
          refine lv_iload_n hx hb dX7_decodeByMessages_22 rfl (lv_at hl 2 rfl) ?_
          refine k_roV (As := [.int (nI k), .int y]) (rest := []) (wc := oX7 w q qz h t gr u tr oc Sw ++ oX3 T q S ++ oX6 T u U) (d := 1) (v := bI (pIW S tl U nt k y)) cx (c_X7_isWhistledAs l G T A w q qz h t gr u tr oc Sw S U tl nt k y hnt (by omega) htl htl8 (by omega)) (cwV 2 hts gX7_decodeByMessages_X7_isWhistledAs rfl rfl rfl (by decide +kernel) ⟨Nat.le_of_ble_eq_true rfl, Nat.le_of_ble_eq_true rfl⟩) hP hK hE (va_recv hK hP (ci := 7) (q0 := 0) rfl rfl) rfl hl.1 rfl (Nat.le_of_ble_eq_true rfl) dX7_decodeByMessages_23 ⟨Nat.le_of_ble_eq_true rfl, Nat.le_of_ble_eq_true rfl⟩ ?_
          refine b_if_eq (b := pIW S tl U nt k y) (tgt := 31) hx hb dX7_decodeByMessages_26 (by decide) (fun c_5 => ?_) (fun c_6 => ?_)
          · skip
            refine lv_iinc (v := nI (k + 1)) (lv' := [(2, .int (nI (k + 1))), (0, .ref (w 0)), (1, .int y)]) hx hb dX7_decodeByMessages_31 hl (k := 0) rfl (n_inc k 1 rfl) (by decide) rfl (fun ls hl => ?_)
            refine lv_goto (tgt := 14) hx hb dX7_decodeByMessages_34 (by decide) ?_
            exact ih14 (k + 1) (by omega) (by omega) (by rw [hno, nFind_n (by omega) (by assumption)]) _ rfl _ (lv_sub hl [0, 1, 2] rfl)
          · skip
            refine lv_iload_n hx hb dX7_decodeByMessages_29 rfl (lv_at hl 0 rfl) ?_
            subst hQ
            exact e_ro hx hb hr hlocks (pDM_2 S tl U nt y (by assumption) (by omega) (by rw [hno, nFind_y (by omega) (by assumption)])) dX7_decodeByMessages_30
    exact L14 (20 + 1) 0 (by omega) (by omega) rfl _ rfl _ (lv_sub hl [0, 1, 2] rfl)
  · skip
    refine lv_iconst (v := -1) hx hb dX7_decodeByMessages_10 (by decide) ?_
    subst hQ
    exact e_ro hx hb hr hlocks (pDM_1 S tl U nt y (by assumption)) dX7_decodeByMessages_11
