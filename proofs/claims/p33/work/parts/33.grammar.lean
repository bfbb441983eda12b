/-! Tune.repeatFrom, Tune.read, the grammar: what they do (pure), then their contracts (printed by wip/p33/s33.py) -/
def pMn (n k : Nat) : Nat := if n + k < 9 then n + k else 9
theorem pMn_le (n k : Nat) : pMn n k ≤ 9 := by unfold pMn; split <;> omega
theorem pMn_0 {n : Nat} (h : n ≤ 9) : pMn n 0 = n := by unfold pMn; split <;> omega
theorem pMn_s {n k : Nat} : pMin9 (pMn n k + 1) = pMn n (k + 1) := by
  unfold pMn pMin9
  by_cases h : n + k < 9
  · rw [if_pos h]
    by_cases h2 : n + k + 1 < 9
    · rw [if_pos h2, if_pos (by omega)]; omega
    · rw [if_neg h2, if_neg (by omega)]
  · rw [if_neg h, if_neg (by omega), if_neg (by omega)]
theorem pRep_s {f : Nat → Int32} {st n k : Nat} : (if pMn n k < 9 then upd (pRep f st n k) (pMn n k) ((pRep f st n k) (st + k)) else pRep f st n k) = pRep f st n (k + 1) := by
  simp only [pRep, pMn]
  by_cases h : n + k < 9
  · simp only [h, if_true]
  · simp only [h, if_false]; rfl
theorem cnt_ge {a : Int32} {k : Nat} (hk : k < 2 ^ 31) (h : a ≤ nI k) : a.toInt.toNat ≤ k := by
  have := Int32.le_iff_toInt_le.mp h
  rw [nI_toInt hk] at this
  omega
theorem cnt_lt {a : Int32} {k : Nat} (hk : k < 2 ^ 31) (h : ¬ a ≤ nI k) : k < a.toInt.toNat := by
  have h1 : ¬ a.toInt ≤ (nI k).toInt := fun q => h (Int32.le_iff_toInt_le.mpr q)
  rw [nI_toInt hk] at h1
  omega
/-- how often repeatFrom adds -/
def pAd (n st : Nat) (x : Int32) : Int32 := (nI n - nI st) * (x - nI 1)
def pAn (n st : Nat) (x : Int32) : Nat := min (pAd n st x).toInt.toNat (9 - st)
theorem pAn_le (n st : Nat) (x : Int32) : pAn n st x ≤ 9 := by unfold pAn; omega
theorem pAn_e1 {n st k : Nat} {x : Int32} (hk : k < 2 ^ 31) (h : pAd n st x ≤ nI k) (h1 : k ≤ pAn n st x) : k = pAn n st x := by
  have := cnt_ge hk h
  unfold pAn at h1 ⊢; omega
theorem pAn_e2 {n st k : Nat} {x : Int32} (h : 9 ≤ st + k) (h1 : k ≤ pAn n st x) : k = pAn n st x := by unfold pAn at h1 ⊢; omega
theorem pAn_lt {n st k : Nat} {x : Int32} (hk : k < 2 ^ 31) (h : ¬ pAd n st x ≤ nI k) (h2 : st + k < 9) : k < pAn n st x := by
  have := cnt_lt hk h
  unfold pAn; omega
def nOf (x : Int32) : Nat := x.toNatClampNeg
theorem nOf_n {k : Nat} (h : k < 2 ^ 31) : nOf (nI k) = k := nI_clamp h
/-- Tune.read: notes, how many, where groups begin, how deep -/
def tR (cd : Nat → Nat) (L a : Nat) (f0 g0 : Nat → Int32) : Nat → (Nat → Int32) × Nat × (Nat → Int32) × Nat
  | 0 => (f0, 0, g0, 0)
  | k + 1 =>
    if ¬ pIx (pAt cd L (a + k)) < 0 then (if (tR cd L a f0 g0 k).2.1 < 9 then upd (tR cd L a f0 g0 k).1 (tR cd L a f0 g0 k).2.1 (pIx (pAt cd L (a + k))) else (tR cd L a f0 g0 k).1, pMin9 ((tR cd L a f0 g0 k).2.1 + 1), (tR cd L a f0 g0 k).2.2.1, (tR cd L a f0 g0 k).2.2.2)
    else if pAt cd L (a + k) = 40 ∧ (tR cd L a f0 g0 k).2.2.2 < 3 then ((tR cd L a f0 g0 k).1, (tR cd L a f0 g0 k).2.1, upd (tR cd L a f0 g0 k).2.2.1 (tR cd L a f0 g0 k).2.2.2 (nI (tR cd L a f0 g0 k).2.1), (tR cd L a f0 g0 k).2.2.2 + 1)
    else if ¬ pAt cd L (a + k) = 41 ∧ 0 < (tR cd L a f0 g0 k).2.2.2 then
      (pRep (tR cd L a f0 g0 k).1 (nOf ((tR cd L a f0 g0 k).2.2.1 ((tR cd L a f0 g0 k).2.2.2 - 1))) (tR cd L a f0 g0 k).2.1 (pAn (tR cd L a f0 g0 k).2.1 (nOf ((tR cd L a f0 g0 k).2.2.1 ((tR cd L a f0 g0 k).2.2.2 - 1))) (nI (pAt cd L (a + k)) - nI 48)),
       pMn (tR cd L a f0 g0 k).2.1 (pAn (tR cd L a f0 g0 k).2.1 (nOf ((tR cd L a f0 g0 k).2.2.1 ((tR cd L a f0 g0 k).2.2.2 - 1))) (nI (pAt cd L (a + k)) - nI 48)),
       (tR cd L a f0 g0 k).2.2.1, (tR cd L a f0 g0 k).2.2.2 - 1)
    else tR cd L a f0 g0 k
def pIn9 (c a b : Nat) : Bool := decide (a ≤ c ∧ c ≤ b)
def gIt (c d : Nat) : Nat × Nat := if ¬ pIx c < 0 then (5, d) else if c = 40 ∧ d < 3 then (4, d + 1) else (0, d)
def gMo (c d : Nat) (ev : Bool) : Nat × Nat := if c = 41 ∧ 0 < d then (6, d - 1) else if c = 44 ∧ d = 0 ∧ ev = true then (1, d) else gIt c d
def gWh (c w t : Nat) : Nat := if c = w then t else 0
def gSta (c : Nat) : Nat := if c = 33 then 13 else if c = 119 then 7 else if c = 116 then 11 else if c = 107 then 12 else if c = 49 then 2 else if pIn9 c 48 57 then 3 else 0
def gAf (ex c d : Nat) (ev : Bool) : Nat × Nat := match ex with
  | 1 => (gSta c, d) | 2 => (if pIn9 c 48 57 then 3 else gWh c 61 4, d) | 3 => (gWh c 61 4, d) | 4 => gIt c d | 5 => gMo c d ev | 6 => (if pIn9 c 50 51 then 5 else 0, d)
  | 7 => (if pIn9 c 48 53 then 8 else 0, d) | 8 => (gWh c 58 9, d) | 9 => (if c = 49 then 10 else if pIn9 c 48 57 then 13 else 0, d) | 10 => (if pIn9 c 48 57 then 13 else gWh c 44 1, d)
  | 11 => (if pIn9 c 48 53 then 13 else 0, d) | 12 => (if pIn9 c 48 54 then 13 else 0, d) | 13 => (gWh c 44 1, d) | _ => (0, d)
theorem gIt_le (c d : Nat) (h : d ≤ 3) : (gIt c d).1 ≤ 13 ∧ (gIt c d).2 ≤ 3 := by
  unfold gIt; repeat' split
  all_goals simp only []
  all_goals omega
theorem gMo_le (c d : Nat) (ev : Bool) (h : d ≤ 3) : (gMo c d ev).1 ≤ 13 ∧ (gMo c d ev).2 ≤ 3 := by
  have := gIt_le c d h
  unfold gMo; repeat' split
  all_goals first | exact this | (simp only []; omega)
theorem gAf_le (ex c d : Nat) (ev : Bool) (h : d ≤ 3) : (gAf ex c d ev).1 ≤ 13 ∧ (gAf ex c d ev).2 ≤ 3 := by
  have h1 := gIt_le c d h
  have h2 := gMo_le c d ev h
  unfold gAf; split
  all_goals first | exact h1 | exact h2 | (unfold gSta; repeat' split) | (unfold gWh; repeat' split) | (repeat' split) | skip
  all_goals simp only []
  all_goals omega
/-- the grammar's state behind k signs -/
def gS (cd : Nat → Nat) (L st : Nat) (ev : Bool) : Nat → Nat × Nat | 0 => (st, 0) | k + 1 => gAf (gS cd L st ev k).1 (pAt cd L k) (gS cd L st ev k).2 ev
theorem gS_le (cd : Nat → Nat) (L : Nat) {st : Nat} (hs : st ≤ 13) (ev : Bool) (k : Nat) : (gS cd L st ev k).1 ≤ 13 ∧ (gS cd L st ev k).2 ≤ 3 := by
  induction k with
  | zero => exact ⟨hs, by simp [gS]⟩
  | succ k ih => exact gAf_le _ _ _ _ ih.2
def nFind (P : Nat → Bool) : Nat → Nat → Nat | 0, k => k | j + 1, k => if P k then k else nFind P j (k + 1)
theorem nFind_n {P : Nat → Bool} {N k : Nat} (hk : k < N) (h : P k = false) : nFind P (N - k) k = nFind P (N - (k + 1)) (k + 1) := by
  rw [show N - k = (N - (k + 1)) + 1 by omega]
  simp [nFind, h]
theorem nFind_y {P : Nat → Bool} {N k : Nat} (hk : k < N) (h : P k = true) : nFind P (N - k) k = k := by
  rw [show N - k = (N - (k + 1)) + 1 by omega]
  simp [nFind, h]
theorem nFind_le {P : Nat → Bool} : ∀ j k, nFind P j k ≤ k + j := by
  intro j
  induction j with
  | zero => intro k; exact Nat.le_refl _
  | succ j ih => intro k; simp only [nFind]; split; omega; have := ih (k + 1); omega
/-- the first sign that is wrong, or L -/
def gEr (cd : Nat → Nat) (L st : Nat) (ev : Bool) : Nat := nFind (fun k => decide ((gS cd L st ev (k + 1)).1 = 0)) L 0
def gEn (cd : Nat → Nat) (L st : Nat) (ev : Bool) : Nat := if gEr cd L st ev < L then gEr cd L st ev + 1 else L
theorem gEr_le (cd : Nat → Nat) (L st : Nat) (ev : Bool) : gEr cd L st ev ≤ L := by
  have := nFind_le (P := fun k => decide ((gS cd L st ev (k + 1)).1 = 0)) L 0
  unfold gEr; omega
def gMay (ex d : Nat) : Bool := decide (ex = 13 ∨ ex = 10 ∨ ex = 5 ∧ d = 0)

set_option maxHeartbeats 4000000 in
set_option maxRecDepth 100000 in
theorem c_X6_repeatFrom (l : Launch) (G : va_G) (T : Nat → ClassId) (sz : Nat) (q : Nat → Nat) (S : Nat → Nat → Int32) (st : Nat) (x : Int32) (n : Nat) (hlen : S 0 2 = nI n) (hn9 : n ≤ 9) (hst : st ≤ 9) : RWv l yX6_repeatFrom wsX6_repeatFrom 1 0 0 G T sz (oX6 T q S) [.ref (q 0), .int (nI st), .int x] (oX6 T q (sa (sc S 2 (nI (pMn n (pAn n st x)))) 1 (pRep (S 1) st n (pAn n st x)))) := by
  refine Met.ofW (cc := cX6_repeatFrom) (maxL := 5) (ret := none) (by decide) rfl ?_
  intro p e s m args below meth c s₁ B hml hv
  obtain ⟨ha, hsz, hP, hK, hD0, hE0⟩ := hv
  have hx := B.exec
  have hb := B.bytes
  have hr := B.returns
  have hlocks := B.notSynchronized
  have hts := atoms_spec (ws := wsX6_repeatFrom) B.pre
  have hown : s.vm.findClass RX6 = some m.cls := findClass_of_methodNamed B.named
  have cx : CallFix p m c cX6_repeatFrom 5 s args wsX6_repeatFrom RX6 := ⟨hx, hb, hml, hown, hts⟩
  subst hsz
  have hD := hD0.self (sz := s.heap.size)
  generalize hAe : va_A (oX6 T q S) s.heap.size = A at hD hE0 ⊢
  have hE : gE A s s.heap := hE0
  have hA : ∀ q : Nat, s.heap.size ≤ q → A q := fun q h => by rw [← hAe]; exact Or.inr h
  have hS : va_S A s.heap s.heap [] := va_S.rf
  refine w_entry ha (Nat.le_of_ble_eq_true rfl) (fun ls hl => ?_)
  refine w_q (fun Q0 hQ => ?_)
  have lk18 := hts (.fieldLink RX6 18 "WhistleTunes$Tune" "length" "I") (by decide +kernel)
  have hinX6 : ∀ w ∈ wsX60, w ∈ wsX6_repeatFrom := by decide +kernel
  have lk11 := hts (.fieldLink RX6 11 "WhistleTunes$Tune" "notes" "[I") (by decide +kernel)
  have hl : lv_has ls 5 [(0, .ref (q 0)), (1, .int (nI st)), (2, .int x)] := hl
  have hP : va_P G vwCl [(q 0, .inr (6, [.ref (q 1), .ref (q 2), .int (S 0 2)])), (q 1, .inl (T 0, 9, .inl (S 1))), (q 2, .inl (T 0, 3, .inl (S 2)))] s.heap := hP
  have hD : va_D A [(q 0, .inr (6, [.ref (q 1), .ref (q 2), .int (S 0 2)])), (q 1, .inl (T 0, 9, .inl (S 1))), (q 2, .inl (T 0, 3, .inl (S 2)))] := hD
  skip
  refine w_h (fun H locs hHe hLe => ?_)
  have hP : va_P G vwCl [(q 0, .inr (6, [.ref (q 1), .ref (q 2), .int (S 0 2)])), (q 1, .inl (T 0, 9, .inl (S 1))), (q 2, .inl (T 0, 3, .inl (S 2)))] H := by rw [hHe]; exact hP
  have hS : va_S A s.heap H locs := by rw [hHe, hLe]; exact hS
  refine lv_aload_n hx hb dX6_repeatFrom_0 rfl (lv_at hl 0 rfl) ?_
  refine va_get (D := G) (ci := 6) (v := .int (S 0 2)) (C := RX6) (T := TX6) (N := 3) hx hb hts hinX6 hown hK hP 0 rfl rfl 2 (by decide) lk18 (fun _ h9 => h9) rfl dX6_repeatFrom_1 ?_
  refine n_top (y := nI n) hlen ?_
  refine lv_iload_n hx hb dX6_repeatFrom_4 rfl (lv_at hl 1 rfl) ?_
  refine lv_isub hx hb dX6_repeatFrom_5 ?_
  refine lv_iload_n hx hb dX6_repeatFrom_6 rfl (lv_at hl 2 rfl) ?_
  refine n_iconst hx hb 1 dX6_repeatFrom_7 (by decide) ?_
  refine lv_isub hx hb dX6_repeatFrom_8 ?_
  refine lv_imul hx hb dX6_repeatFrom_9 ?_
  refine lv_istore_n (lv' := [(3, .int (((nI n) - (nI st)) * (x - (nI 1)))), (0, .ref (q 0)), (1, .int (nI st)), (2, .int x)]) hx hb dX6_repeatFrom_10 rfl hl (by decide) rfl (fun ls hl => ?_)
  refine n_iconst hx hb 0 dX6_repeatFrom_11 (by decide) ?_
  refine lv_istore (lv' := [(4, .int (nI 0)), (3, .int (((nI n) - (nI st)) * (x - (nI 1)))), (0, .ref (q 0)), (1, .int (nI st)), (2, .int x)]) hx hb dX6_repeatFrom_12 hl (by decide) rfl (fun ls hl => ?_)
  have L14 : ∀ (n9 k : Nat) (hk1 : k ≤ pAn n st x) (hk2 : pAn n st x - k < n9) (x4 : Int32) (F_1 : Nat → Int32) (y_2 : Int32) (hx4 : x4 = nI k) (hF_1 : F_1 = pRep (S 1) st n k) (hy_2 : y_2 = nI (pMn n k)) (H : Heap) (locs : List Loc) (hP : va_P G vwCl [(q 0, .inr (6, [.ref (q 1), .ref (q 2), .int y_2])), (q 1, .inl (T 0, 9, .inl F_1)), (q 2, .inl (T 0, 3, .inl (S 2)))] H) (hD : va_D A [(q 0, .inr (6, [.ref (q 1), .ref (q 2), .int y_2])), (q 1, .inl (T 0, 9, .inl F_1)), (q 2, .inl (T 0, 3, .inl (S 2)))]) (hS : va_S A s.heap H locs) (ls : Array Slot) (hl : lv_has ls 5 [(4, .int x4), (3, .int (((nI n) - (nI st)) * (x - (nI 1)))), (0, .ref (q 0)), (1, .int (nI st)), (2, .int x)]), W p l e (headSpec wsX6_repeatFrom (rmD 1 0 0)).room s m args below meth c H locs 0 0 Q0 (F0 m 14 ls []) := by
    intro n9
    induction n9 with
    | zero => intros; omega
    | succ n9 ih14 =>
      intro k hk1 hk2 x4 F_1 y_2 hx4 hF_1 hy_2 H locs hP hD hS ls hl
      subst hx4 hF_1 hy_2
      have hpm := pMn_le n k
      have hpa9 := pAn_le n st x
      refine lv_iload hx hb dX6_repeatFrom_14 (lv_at hl 0 rfl) ?_
      refine lv_iload_n hx hb dX6_repeatFrom_16 rfl (lv_at hl 1 rfl) ?_
      refine lv_icmp_ge (tgt := 48) hx hb dX6_repeatFrom_17 (by decide) (fun c_3 => ?_) (fun c_4 => ?_)
      · skip
        subst hQ
        have e_5 : (pRep (S 1) st n k) = pRep (S 1) st n (pAn n st x) := (by first | (rw [← pAn_e1 (by omega) (by assumption) hk1]; done) | (rw [← pAn_e2 (by omega) hk1]; done))
        have e_6 : nI (pMn n k) = nI (pMn n (pAn n st x)) := (by first | (rw [← pAn_e1 (by omega) (by assumption) hk1]; done) | (rw [← pAn_e2 (by omega) hk1]; done))
        rw [e_5, e_6] at hP hD
        have hP9 : va_P G vwCl (oX6 T q (sa (sc S 2 (nI (pMn n (pAn n st x)))) 1 (pRep (S 1) st n (pAn n st x)))) H := hP
        have hD9 : va_D A (oX6 T q (sa (sc S 2 (nI (pMn n (pAn n st x)))) 1 (pRep (S 1) st n (pAn n st x)))) := hD
        exact e_rwv hx hb hr hlocks hS hP9 hD9 dX6_repeatFrom_48
      · skip
        refine lv_iload_n hx hb dX6_repeatFrom_20 rfl (lv_at hl 3 rfl) ?_
        refine lv_iload hx hb dX6_repeatFrom_21 (lv_at hl 0 rfl) ?_
        refine n_iadd (a := st) (b := k) hx hb dX6_repeatFrom_23 ?_
        refine lv_bipush (v := nI 9) hx hb dX6_repeatFrom_24 (by decide) ?_
        refine n_icmp_ge (a := st + k) (b := 9) (tgt := 48) hx hb (by omega) (by decide) dX6_repeatFrom_26 (by decide) (fun c_7 => ?_) (fun c_8 => ?_)
        · skip
          subst hQ
          have e_9 : (pRep (S 1) st n k) = pRep (S 1) st n (pAn n st x) := (by first | (rw [← pAn_e1 (by omega) (by assumption) hk1]; done) | (rw [← pAn_e2 (by omega) hk1]; done))
          have e_10 : nI (pMn n k) = nI (pMn n (pAn n st x)) := (by first | (rw [← pAn_e1 (by omega) (by assumption) hk1]; done) | (rw [← pAn_e2 (by omega) hk1]; done))
          rw [e_9, e_10] at hP hD
          have hP9 : va_P G vwCl (oX6 T q (sa (sc S 2 (nI (pMn n (pAn n st x)))) 1 (pRep (S 1) st n (pAn n st x)))) H := hP
          have hD9 : va_D A (oX6 T q (sa (sc S 2 (nI (pMn n (pAn n st x)))) 1 (pRep (S 1) st n (pAn n st x)))) := hD
          exact e_rwv hx hb hr hlocks hS hP9 hD9 dX6_repeatFrom_48
        · skip
          have hkA : k < pAn n st x := pAn_lt (by omega) (by assumption) (by omega)
          refine lv_aload_n hx hb dX6_repeatFrom_29 rfl (lv_at hl 2 rfl) ?_
          refine lv_aload_n hx hb dX6_repeatFrom_30 rfl (lv_at hl 2 rfl) ?_
          refine va_get (D := G) (ci := 6) (v := .ref (q 1)) (C := RX6) (T := TX6) (N := 3) hx hb hts hinX6 hown hK hP 0 rfl rfl 0 (by decide) lk11 (fun _ h9 => h9) rfl dX6_repeatFrom_31 ?_
          refine lv_iload_n hx hb dX6_repeatFrom_34 rfl (lv_at hl 3 rfl) ?_
          refine lv_iload hx hb dX6_repeatFrom_35 (lv_at hl 0 rfl) ?_
          refine n_iadd (a := st) (b := k) hx hb dX6_repeatFrom_37 ?_
          refine n_iald hx hb hK hP 1 0 rfl rfl (st + k) (by omega) (by decide) dX6_repeatFrom_38 ?_
          refine k_rvV (As := [.int ((pRep (S 1) st n k) (st + k))]) (rest := []) (wc := oX6 T q (sa (sc S 2 (nI (pMn n k))) 1 (pRep (S 1) st n k))) (wr := []) (w1 := oX6 T q (sa (sc (sa (sc S 2 (nI (pMn n k))) 1 (pRep (S 1) st n k)) 2 (nI (pMin9 ((pMn n k) + 1)))) 1 (if (pMn n k) < 9 then upd ((sa (sc S 2 (nI (pMn n k))) 1 (pRep (S 1) st n k)) 1) (pMn n k) ((pRep (S 1) st n k) (st + k)) else (sa (sc S 2 (nI (pMn n k))) 1 (pRep (S 1) st n k)) 1))) (d := 0) (mc := 0) (ms := 0) (isC := [0, 1, 2]) (isR := []) cx (c_X6_add l G T H.size q (sa (sc S 2 (nI (pMn n k))) 1 (pRep (S 1) st n k)) ((pRep (S 1) st n k) (st + k)) (pMn n k) (by first | assumption | rfl | omega) (by omega)) (cwV 1 hts gX6_repeatFrom_X6_add rfl rfl rfl (by decide +kernel) ⟨Nat.le_of_ble_eq_true rfl, Nat.le_of_ble_eq_true rfl⟩) ⟨hP, hD, hS, hA, hE, hK, rfl, rfl, rfl, rfl, by decide⟩ (va_recv hK hP (ci := 6) (q0 := 0) rfl rfl) rfl hl.1 rfl (Nat.le_of_ble_eq_true rfl) dX6_repeatFrom_39 ⟨Nat.le_of_ble_eq_true rfl, Nat.le_of_ble_eq_true rfl⟩ (fun H locs hP hD hS hz => ?_)
          have hP : va_P G vwCl [(q 0, .inr (6, [.ref (q 1), .ref (q 2), .int (nI (pMin9 ((pMn n k) + 1)))])), (q 1, .inl (T 0, 9, .inl (if (pMn n k) < 9 then upd ((pRep (S 1) st n k)) (pMn n k) ((pRep (S 1) st n k) (st + k)) else (pRep (S 1) st n k)))), (q 2, .inl (T 0, 3, .inl (S 2)))] H := hP
          have hD : va_D A [(q 0, .inr (6, [.ref (q 1), .ref (q 2), .int (nI (pMin9 ((pMn n k) + 1)))])), (q 1, .inl (T 0, 9, .inl (if (pMn n k) < 9 then upd ((pRep (S 1) st n k)) (pMn n k) ((pRep (S 1) st n k) (st + k)) else (pRep (S 1) st n k)))), (q 2, .inl (T 0, 3, .inl (S 2)))] := hD
          refine lv_iinc (v := nI (k + 1)) (lv' := [(4, .int (nI (k + 1))), (3, .int (((nI n) - (nI st)) * (x - (nI 1)))), (0, .ref (q 0)), (1, .int (nI st)), (2, .int x)]) hx hb dX6_repeatFrom_42 hl (k := 0) rfl (n_inc k 1 rfl) (by decide) rfl (fun ls hl => ?_)
          refine lv_goto (tgt := 14) hx hb dX6_repeatFrom_45 (by decide) ?_
          have e_11 : (if (pMn n k) < 9 then upd ((pRep (S 1) st n k)) (pMn n k) ((pRep (S 1) st n k) (st + k)) else (pRep (S 1) st n k)) = pRep (S 1) st n (k + 1) := pRep_s
          have e_12 : (nI (pMin9 ((pMn n k) + 1))) = nI (pMn n (k + 1)) := (by rw [pMn_s])
          exact ih14 (k + 1) (by omega) (by omega) _ _ _ rfl e_11 e_12 _ _ hP hD hS _ (lv_sub hl [0, 1, 2, 3, 4] rfl)
  exact L14 (pAn n st x + 1) 0 (by omega) (by omega) _ _ _ rfl rfl (by rw [pMn_0 hn9]; exact hlen) _ _ hP hD hS _ (lv_sub hl [0, 1, 2, 3, 4] rfl)
set_option maxHeartbeats 4000000 in
set_option maxRecDepth 100000 in
theorem c_X0_isIn (l : Launch) (G : va_G) (T : Nat → ClassId) (A : Nat → Prop) (cc : Nat) (a : Nat) (b : Nat) (hc : cc < 128) (ha : a < 128) (hb9 : b < 128) : RO l yX0_isIn wsX0_isIn 0 G T A ([]) [.int (nI cc), .int (nI a), .int (nI b)] (bI (pIn9 cc a b)) := by
  refine Met.ofW (cc := cX0_isIn) (maxL := 3) (ret := (some .boolean)) (by decide) rfl ?_
  intro p e s m args below meth c s₁ B hml hv
  obtain ⟨ha, hP, hK, hE⟩ := hv
  have hx := B.exec
  have hb := B.bytes
  have hr := B.returns
  have hlocks := B.notSynchronized
  have hts := atoms_spec (ws := wsX0_isIn) B.pre
  have hown : s.vm.findClass RX0 = some m.cls := findClass_of_methodNamed B.named
  have cx : CallFix p m c cX0_isIn 3 s args wsX0_isIn RX0 := ⟨hx, hb, hml, hown, hts⟩
  refine w_entry ha (Nat.le_of_ble_eq_true rfl) (fun ls hl => ?_)
  refine w_q (fun Q0 hQ => ?_)
  have hl : lv_has ls 3 [(0, .int (nI cc)), (1, .int (nI a)), (2, .int (nI b))] := hl
  have hP : va_P G vwCl [] s.heap := hP
  refine lv_iload_n hx hb dX0_isIn_0 rfl (lv_at hl 0 rfl) ?_
  refine lv_iload_n hx hb dX0_isIn_1 rfl (lv_at hl 1 rfl) ?_
  refine n_icmp_lt (a := cc) (b := a) (tgt := 14) hx hb (by omega) (by omega) dX0_isIn_2 (by decide) (fun c_1 => ?_) (fun c_2 => ?_)
  · skip
    refine n_iconst hx hb 0 dX0_isIn_14 (by decide) ?_
    subst hQ
    exact e_roz hx hb hr hlocks (by first | rfl | exact nar_b _) (by unfold pIn9; first | (rw [decide_eq_true (by omega)]; rfl) | (rw [decide_eq_false (by omega)]; rfl)) dX0_isIn_15
  · skip
    refine lv_iload_n hx hb dX0_isIn_5 rfl (lv_at hl 0 rfl) ?_
    refine lv_iload_n hx hb dX0_isIn_6 rfl (lv_at hl 2 rfl) ?_
    refine n_icmp_gt (a := cc) (b := b) (tgt := 14) hx hb (by omega) (by omega) dX0_isIn_7 (by decide) (fun c_3 => ?_) (fun c_4 => ?_)
    · skip
      refine n_iconst hx hb 0 dX0_isIn_14 (by decide) ?_
      subst hQ
      exact e_roz hx hb hr hlocks (by first | rfl | exact nar_b _) (by unfold pIn9; first | (rw [decide_eq_true (by omega)]; rfl) | (rw [decide_eq_false (by omega)]; rfl)) dX0_isIn_15
    · skip
      refine n_iconst hx hb 1 dX0_isIn_10 (by decide) ?_
      refine lv_goto (tgt := 15) hx hb dX0_isIn_11 (by decide) ?_
      subst hQ
      exact e_roz hx hb hr hlocks (by first | rfl | exact nar_b _) (by unfold pIn9; first | (rw [decide_eq_true (by omega)]; rfl) | (rw [decide_eq_false (by omega)]; rfl)) dX0_isIn_15
set_option maxHeartbeats 4000000 in
set_option maxRecDepth 100000 in
theorem c_X0_whenIs (l : Launch) (G : va_G) (T : Nat → ClassId) (A : Nat → Prop) (cc : Nat) (a : Nat) (b : Nat) (hc : cc < 128) (ha : a < 128) (hb9 : b < 128) : RO l yX0_whenIs wsX0_whenIs 0 G T A ([]) [.int (nI cc), .int (nI a), .int (nI b)] (nI (gWh cc a b)) := by
  refine Met.ofW (cc := cX0_whenIs) (maxL := 3) (ret := (some .int)) (by decide) rfl ?_
  intro p e s m args below meth c s₁ B hml hv
  obtain ⟨ha, hP, hK, hE⟩ := hv
  have hx := B.exec
  have hb := B.bytes
  have hr := B.returns
  have hlocks := B.notSynchronized
  have hts := atoms_spec (ws := wsX0_whenIs) B.pre
  have hown : s.vm.findClass RX0 = some m.cls := findClass_of_methodNamed B.named
  have cx : CallFix p m c cX0_whenIs 3 s args wsX0_whenIs RX0 := ⟨hx, hb, hml, hown, hts⟩
  refine w_entry ha (Nat.le_of_ble_eq_true rfl) (fun ls hl => ?_)
  refine w_q (fun Q0 hQ => ?_)
  have hl : lv_has ls 3 [(0, .int (nI cc)), (1, .int (nI a)), (2, .int (nI b))] := hl
  have hP : va_P G vwCl [] s.heap := hP
  refine lv_iload_n hx hb dX0_whenIs_0 rfl (lv_at hl 0 rfl) ?_
  refine lv_iload_n hx hb dX0_whenIs_1 rfl (lv_at hl 1 rfl) ?_
  refine n_icmp_ne (a := cc) (b := a) (tgt := 9) hx hb (by omega) (by omega) dX0_whenIs_2 (by decide) (fun c_1 => ?_) (fun c_2 => ?_)
  · skip
    refine n_iconst hx hb 0 dX0_whenIs_9 (by decide) ?_
    subst hQ
    exact e_ro hx hb hr hlocks (by unfold gWh; first | rw [if_pos c_1] | rw [if_neg c_1]) dX0_whenIs_10
  · skip
    refine lv_iload_n hx hb dX0_whenIs_5 rfl (lv_at hl 2 rfl) ?_
    refine lv_goto (tgt := 10) hx hb dX0_whenIs_6 (by decide) ?_
    subst hQ
    exact e_ro hx hb hr hlocks (by unfold gWh; first | rw [if_pos c_2] | rw [if_neg c_2]) dX0_whenIs_10
set_option maxHeartbeats 4000000 in
set_option maxRecDepth 100000 in
theorem c_X0_afterStart (l : Launch) (G : va_G) (T : Nat → ClassId) (A : Nat → Prop) (cc : Nat) (hc : cc < 128) : RO l yX0_afterStart wsX0_afterStart 1 G T A ([]) [.int (nI cc)] (nI (gSta cc)) := by
  refine Met.ofW (cc := cX0_afterStart) (maxL := 1) (ret := (some .int)) (by decide) rfl ?_
  intro p e s m args below meth c s₁ B hml hv
  obtain ⟨ha, hP, hK, hE⟩ := hv
  have hx := B.exec
  have hb := B.bytes
  have hr := B.returns
  have hlocks := B.notSynchronized
  have hts := atoms_spec (ws := wsX0_afterStart) B.pre
  have hown : s.vm.findClass RX0 = some m.cls := findClass_of_methodNamed B.named
  have cx : CallFix p m c cX0_afterStart 1 s args wsX0_afterStart RX0 := ⟨hx, hb, hml, hown, hts⟩
  refine w_entry ha (Nat.le_of_ble_eq_true rfl) (fun ls hl => ?_)
  refine w_q (fun Q0 hQ => ?_)
  have hl : lv_has ls 1 [(0, .int (nI cc))] := hl
  have hP : va_P G vwCl [] s.heap := hP
  refine lv_iload_n hx hb dX0_afterStart_0 rfl (lv_at hl 0 rfl) ?_
  refine lv_bipush (v := nI 33) hx hb dX0_afterStart_1 (by decide) ?_
  refine n_icmp_ne (a := cc) (b := 33) (tgt := 9) hx hb (by omega) (by decide) dX0_afterStart_3 (by decide) (fun c_1 => ?_) (fun c_2 => ?_)
  · skip
    refine lv_iload_n hx hb dX0_afterStart_9 rfl (lv_at hl 0 rfl) ?_
    refine lv_bipush (v := nI 119) hx hb dX0_afterStart_10 (by decide) ?_
    refine n_icmp_ne (a := cc) (b := 119) (tgt := 18) hx hb (by omega) (by decide) dX0_afterStart_12 (by decide) (fun c_3 => ?_) (fun c_4 => ?_)
    · skip
      refine lv_iload_n hx hb dX0_afterStart_18 rfl (lv_at hl 0 rfl) ?_
      refine lv_bipush (v := nI 116) hx hb dX0_afterStart_19 (by decide) ?_
      refine n_icmp_ne (a := cc) (b := 116) (tgt := 27) hx hb (by omega) (by decide) dX0_afterStart_21 (by decide) (fun c_5 => ?_) (fun c_6 => ?_)
      · skip
        refine lv_iload_n hx hb dX0_afterStart_27 rfl (lv_at hl 0 rfl) ?_
        refine lv_bipush (v := nI 107) hx hb dX0_afterStart_28 (by decide) ?_
        refine n_icmp_ne (a := cc) (b := 107) (tgt := 36) hx hb (by omega) (by decide) dX0_afterStart_30 (by decide) (fun c_7 => ?_) (fun c_8 => ?_)
        · skip
          refine lv_iload_n hx hb dX0_afterStart_36 rfl (lv_at hl 0 rfl) ?_
          refine lv_bipush (v := nI 49) hx hb dX0_afterStart_37 (by decide) ?_
          refine n_icmp_ne (a := cc) (b := 49) (tgt := 44) hx hb (by omega) (by decide) dX0_afterStart_39 (by decide) (fun c_9 => ?_) (fun c_10 => ?_)
          · skip
            refine lv_iload_n hx hb dX0_afterStart_44 rfl (lv_at hl 0 rfl) ?_
            refine lv_bipush (v := nI 48) hx hb dX0_afterStart_45 (by decide) ?_
            refine lv_bipush (v := nI 57) hx hb dX0_afterStart_47 (by decide) ?_
            refine k_roS (As := [.int (nI cc), .int (nI 48), .int (nI 57)]) (rest := []) (wc := []) (d := 0) (v := bI (pIn9 cc 48 57)) cx (c_X0_isIn l G T A cc 48 57 (by omega) (by omega) (by omega)) (va_cwS 3 hts gX0_afterStart_X0_isIn rfl rfl rfl (by decide +kernel) ⟨Nat.le_of_ble_eq_true rfl, Nat.le_of_ble_eq_true rfl⟩) hP hK hE rfl hl.1 rfl (Nat.le_of_ble_eq_true rfl) dX0_afterStart_49 ⟨Nat.le_of_ble_eq_true rfl, Nat.le_of_ble_eq_true rfl⟩ ?_
            refine b_if_eq (b := pIn9 cc 48 57) (tgt := 59) hx hb dX0_afterStart_52 (by decide) (fun c_11 => ?_) (fun c_12 => ?_)
            · skip
              refine n_iconst hx hb 0 dX0_afterStart_59 (by decide) ?_
              subst hQ
              exact e_ro hx hb hr hlocks (by simp [gSta, c_1, c_3, c_5, c_7, c_9, c_11]) dX0_afterStart_60
            · skip
              refine n_iconst hx hb 3 dX0_afterStart_55 (by decide) ?_
              refine lv_goto (tgt := 60) hx hb dX0_afterStart_56 (by decide) ?_
              subst hQ
              exact e_ro hx hb hr hlocks (by simp [gSta, c_1, c_3, c_5, c_7, c_9, c_12]) dX0_afterStart_60
          · skip
            refine n_iconst hx hb 2 dX0_afterStart_42 (by decide) ?_
            subst hQ
            exact e_ro hx hb hr hlocks (by simp [gSta, c_1, c_3, c_5, c_7, c_10]) dX0_afterStart_43
        · skip
          refine lv_bipush (v := nI 12) hx hb dX0_afterStart_33 (by decide) ?_
          subst hQ
          exact e_ro hx hb hr hlocks (by simp [gSta, c_1, c_3, c_5, c_8]) dX0_afterStart_35
      · skip
        refine lv_bipush (v := nI 11) hx hb dX0_afterStart_24 (by decide) ?_
        subst hQ
        exact e_ro hx hb hr hlocks (by simp [gSta, c_1, c_3, c_6]) dX0_afterStart_26
    · skip
      refine lv_bipush (v := nI 7) hx hb dX0_afterStart_15 (by decide) ?_
      subst hQ
      exact e_ro hx hb hr hlocks (by simp [gSta, c_1, c_4]) dX0_afterStart_17
  · skip
    refine lv_bipush (v := nI 13) hx hb dX0_afterStart_6 (by decide) ?_
    subst hQ
    exact e_ro hx hb hr hlocks (by simp [gSta, c_2]) dX0_afterStart_8
set_option maxHeartbeats 4000000 in
set_option maxRecDepth 100000 in
theorem c_X0_afterItem (l : Launch) (G : va_G) (T : Nat → ClassId) (sz : Nat) (q : Nat → Nat) (S : Nat → Nat → Int32) (cc : Nat) (dd : Nat) (hc : cc < 128) (hd : S 0 1 = nI dd) (hd3 : dd ≤ 3) : RWi l yX0_afterItem wsX0_afterItem 4 0 0 G T sz (oX0 T q S) [.ref (q 0), .int (nI cc)] (nI (gIt cc dd).1) (oX0 T q (sc S 1 (nI (gIt cc dd).2))) := by
  refine Met.ofW (cc := cX0_afterItem) (maxL := 2) (ret := (some .int)) (by decide) rfl ?_
  intro p e s m args below meth c s₁ B hml hv
  obtain ⟨ha, hsz, hP, hK, hD0, hE0⟩ := hv
  have hx := B.exec
  have hb := B.bytes
  have hr := B.returns
  have hlocks := B.notSynchronized
  have hts := atoms_spec (ws := wsX0_afterItem) B.pre
  have hown : s.vm.findClass RX0 = some m.cls := findClass_of_methodNamed B.named
  have cx : CallFix p m c cX0_afterItem 2 s args wsX0_afterItem RX0 := ⟨hx, hb, hml, hown, hts⟩
  subst hsz
  have hD := hD0.self (sz := s.heap.size)
  generalize hAe : va_A (oX0 T q S) s.heap.size = A at hD hE0 ⊢
  have hE : gE A s s.heap := hE0
  have hA : ∀ q : Nat, s.heap.size ≤ q → A q := fun q h => by rw [← hAe]; exact Or.inr h
  have hS : va_S A s.heap s.heap [] := va_S.rf
  refine w_entry ha (Nat.le_of_ble_eq_true rfl) (fun ls hl => ?_)
  refine w_q (fun Q0 hQ => ?_)
  have lk23 := hts (.fieldLink RX0 23 "WhistleTunes$Grammar" "depth" "I") (by decide +kernel)
  have hinX0 : ∀ w ∈ wsX00, w ∈ wsX0_afterItem := by decide +kernel
  have hl : lv_has ls 2 [(0, .ref (q 0)), (1, .int (nI cc))] := hl
  have hP : va_P G vwCl [(q 0, .inr (0, [.int (S 0 0), .int (S 0 1), .int (S 0 2)]))] s.heap := hP
  have hD : va_D A [(q 0, .inr (0, [.int (S 0 0), .int (S 0 1), .int (S 0 2)]))] := hD
  skip
  obtain ⟨adK, adV, hvk, hstr, hstr6⟩ := hE.2.2.1
  refine w_h (fun H locs hHe hLe => ?_)
  have hP : va_P G vwCl [(q 0, .inr (0, [.int (S 0 0), .int (S 0 1), .int (S 0 2)]))] H := by rw [hHe]; exact hP
  have hS : va_S A s.heap H locs := by rw [hHe, hLe]; exact hS
  refine va_ldcS hx hb hown hstr dX0_afterItem_0 ?_
  refine lv_iload_n hx hb dX0_afterItem_2 rfl (lv_at hl 1 rfl) ?_
  refine k_rsV (As := [.int (nI cc)]) (rest := []) (d := 3) (v := pIx cc) cx (c_J0_indexOf_0f7a4 l G T A (adK 0) (adV 0) cc (by omega)) (cwV 1 hts gX0_afterItem_J0_indexOf_0f7a4 rfl rfl rfl (by decide +kernel) ⟨Nat.le_of_ble_eq_true rfl, Nat.le_of_ble_eq_true rfl⟩) hK (hE.kept hS.2.1) ⟨adK, adV, hvk.kept hS.2.1, rfl, rfl⟩ (vk_recv hvk (by decide) hS) rfl hl.1 rfl (Nat.le_of_ble_eq_true rfl) dX0_afterItem_3 ⟨Nat.le_of_ble_eq_true rfl, Nat.le_of_ble_eq_true rfl⟩ ?_
  refine lv_if_lt (tgt := 11) hx hb dX0_afterItem_6 (by decide) (fun c_1 => ?_) (fun c_2 => ?_)
  · skip
    refine lv_iload_n hx hb dX0_afterItem_11 rfl (lv_at hl 1 rfl) ?_
    refine lv_bipush (v := nI 40) hx hb dX0_afterItem_12 (by decide) ?_
    refine n_icmp_ne (a := cc) (b := 40) (tgt := 37) hx hb (by omega) (by decide) dX0_afterItem_14 (by decide) (fun c_3 => ?_) (fun c_4 => ?_)
    · skip
      refine n_iconst hx hb 0 dX0_afterItem_37 (by decide) ?_
      subst hQ
      have e_5 : S 0 1 = nI (gIt cc dd).2 := (by first | (exfalso; omega) | (skip; (first | rw [hd] | skip); ((unfold gIt; first | rw [if_pos (show ¬ pIx cc < 0 by assumption)] | (rw [if_neg (fun q => q (show pIx cc < 0 by assumption))]; first | rw [if_pos (show cc = 40 ∧ dd < 3 by omega)] | rw [if_neg (show ¬ (cc = 40 ∧ dd < 3) by omega)])) <;> rfl)))
      rw [e_5] at hP hD
      have hP9 : va_P G vwCl (oX0 T q (sc S 1 (nI (gIt cc dd).2))) H := hP
      have hD9 : va_D A (oX0 T q (sc S 1 (nI (gIt cc dd).2))) := hD
      exact e_rwi hx hb hr hlocks hS (by first | (exfalso; omega) | (skip; ((unfold gIt; first | rw [if_pos (show ¬ pIx cc < 0 by assumption)] | (rw [if_neg (fun q => q (show pIx cc < 0 by assumption))]; first | rw [if_pos (show cc = 40 ∧ dd < 3 by omega)] | rw [if_neg (show ¬ (cc = 40 ∧ dd < 3) by omega)])) <;> rfl))) hP9 hD9 dX0_afterItem_38
    · skip
      refine lv_aload_n hx hb dX0_afterItem_17 rfl (lv_at hl 0 rfl) ?_
      refine va_get (D := G) (ci := 0) (v := .int (S 0 1)) (C := RX0) (T := TX0) (N := 3) hx hb hts hinX0 hown hK hP 0 rfl rfl 1 (by decide) lk23 (fun _ h9 => h9) rfl dX0_afterItem_18 ?_
      refine n_top (y := nI dd) hd ?_
      refine n_iconst hx hb 3 dX0_afterItem_21 (by decide) ?_
      refine n_icmp_ge (a := dd) (b := 3) (tgt := 37) hx hb (by omega) (by decide) dX0_afterItem_22 (by decide) (fun c_6 => ?_) (fun c_7 => ?_)
      · skip
        refine n_iconst hx hb 0 dX0_afterItem_37 (by decide) ?_
        subst hQ
        have e_8 : S 0 1 = nI (gIt cc dd).2 := (by first | (exfalso; omega) | (skip; (first | rw [hd] | skip); ((unfold gIt; first | rw [if_pos (show ¬ pIx cc < 0 by assumption)] | (rw [if_neg (fun q => q (show pIx cc < 0 by assumption))]; first | rw [if_pos (show cc = 40 ∧ dd < 3 by omega)] | rw [if_neg (show ¬ (cc = 40 ∧ dd < 3) by omega)])) <;> rfl)))
        rw [e_8] at hP hD
        have hP9 : va_P G vwCl (oX0 T q (sc S 1 (nI (gIt cc dd).2))) H := hP
        have hD9 : va_D A (oX0 T q (sc S 1 (nI (gIt cc dd).2))) := hD
        exact e_rwi hx hb hr hlocks hS (by first | (exfalso; omega) | (skip; ((unfold gIt; first | rw [if_pos (show ¬ pIx cc < 0 by assumption)] | (rw [if_neg (fun q => q (show pIx cc < 0 by assumption))]; first | rw [if_pos (show cc = 40 ∧ dd < 3 by omega)] | rw [if_neg (show ¬ (cc = 40 ∧ dd < 3) by omega)])) <;> rfl))) hP9 hD9 dX0_afterItem_38
      · skip
        refine lv_aload_n hx hb dX0_afterItem_25 rfl (lv_at hl 0 rfl) ?_
        refine lv_dup hx hb dX0_afterItem_26 rfl ?_
        refine va_get (D := G) (ci := 0) (v := .int (S 0 1)) (C := RX0) (T := TX0) (N := 3) hx hb hts hinX0 hown hK hP 0 rfl rfl 1 (by decide) lk23 (fun _ h9 => h9) rfl dX0_afterItem_27 ?_
        refine n_top (y := nI dd) hd ?_
        refine n_iconst hx hb 1 dX0_afterItem_30 (by decide) ?_
        refine n_iadd (a := dd) (b := 1) hx hb dX0_afterItem_31 ?_
        refine va_put (D := G) (ci := 0) (v := .int (nI (dd + 1))) (ty := .int) (C := RX0) (T := TX0) (N := 3) hx hb hts hinX0 tyX0 tyX0_ok nmX0 hown hK hP hD hS 0 rfl rfl 1 (by decide) lk23 (fun _ h9 => h9) rfl (by decide +kernel) rfl rfl (Nat.le_of_ble_eq_true rfl) dX0_afterItem_32 (fun H locs hP hD hS => ?_)
        have hP : va_P G vwCl [(q 0, .inr (0, [.int (S 0 0), .int (nI (dd + 1)), .int (S 0 2)]))] H := hP
        have hD : va_D A [(q 0, .inr (0, [.int (S 0 0), .int (nI (dd + 1)), .int (S 0 2)]))] := hD
        refine n_iconst hx hb 4 dX0_afterItem_35 (by decide) ?_
        subst hQ
        have e_9 : nI (dd + 1) = nI (gIt cc dd).2 := (by first | (exfalso; omega) | (skip; (first | rw [hd] | skip); ((unfold gIt; first | rw [if_pos (show ¬ pIx cc < 0 by assumption)] | (rw [if_neg (fun q => q (show pIx cc < 0 by assumption))]; first | rw [if_pos (show cc = 40 ∧ dd < 3 by omega)] | rw [if_neg (show ¬ (cc = 40 ∧ dd < 3) by omega)])) <;> rfl)))
        rw [e_9] at hP hD
        have hP9 : va_P G vwCl (oX0 T q (sc S 1 (nI (gIt cc dd).2))) H := hP
        have hD9 : va_D A (oX0 T q (sc S 1 (nI (gIt cc dd).2))) := hD
        exact e_rwi hx hb hr hlocks hS (by first | (exfalso; omega) | (skip; ((unfold gIt; first | rw [if_pos (show ¬ pIx cc < 0 by assumption)] | (rw [if_neg (fun q => q (show pIx cc < 0 by assumption))]; first | rw [if_pos (show cc = 40 ∧ dd < 3 by omega)] | rw [if_neg (show ¬ (cc = 40 ∧ dd < 3) by omega)])) <;> rfl))) hP9 hD9 dX0_afterItem_36
  · skip
    refine n_iconst hx hb 5 dX0_afterItem_9 (by decide) ?_
    subst hQ
    have e_10 : S 0 1 = nI (gIt cc dd).2 := (by first | (exfalso; omega) | (skip; (first | rw [hd] | skip); ((unfold gIt; first | rw [if_pos (show ¬ pIx cc < 0 by assumption)] | (rw [if_neg (fun q => q (show pIx cc < 0 by assumption))]; first | rw [if_pos (show cc = 40 ∧ dd < 3 by omega)] | rw [if_neg (show ¬ (cc = 40 ∧ dd < 3) by omega)])) <;> rfl)))
    rw [e_10] at hP hD
    have hP9 : va_P G vwCl (oX0 T q (sc S 1 (nI (gIt cc dd).2))) H := hP
    have hD9 : va_D A (oX0 T q (sc S 1 (nI (gIt cc dd).2))) := hD
    exact e_rwi hx hb hr hlocks hS (by first | (exfalso; omega) | (skip; ((unfold gIt; first | rw [if_pos (show ¬ pIx cc < 0 by assumption)] | (rw [if_neg (fun q => q (show pIx cc < 0 by assumption))]; first | rw [if_pos (show cc = 40 ∧ dd < 3 by omega)] | rw [if_neg (show ¬ (cc = 40 ∧ dd < 3) by omega)])) <;> rfl))) hP9 hD9 dX0_afterItem_10
set_option maxHeartbeats 4000000 in
set_option maxRecDepth 100000 in
theorem c_X0_afterMore (l : Launch) (G : va_G) (T : Nat → ClassId) (sz : Nat) (q : Nat → Nat) (S : Nat → Nat → Int32) (cc : Nat) (dd : Nat) (ev : Bool) (hc : cc < 128) (hd : S 0 1 = nI dd) (hd3 : dd ≤ 3) (hev : S 0 2 = bI ev) : RWi l yX0_afterMore wsX0_afterMore 5 0 0 G T sz (oX0 T q S) [.ref (q 0), .int (nI cc)] (nI (gMo cc dd ev).1) (oX0 T q (sc S 1 (nI (gMo cc dd ev).2))) := by
  refine Met.ofW (cc := cX0_afterMore) (maxL := 2) (ret := (some .int)) (by decide) rfl ?_
  intro p e s m args below meth c s₁ B hml hv
  obtain ⟨ha, hsz, hP, hK, hD0, hE0⟩ := hv
  have hx := B.exec
  have hb := B.bytes
  have hr := B.returns
  have hlocks := B.notSynchronized
  have hts := atoms_spec (ws := wsX0_afterMore) B.pre
  have hown : s.vm.findClass RX0 = some m.cls := findClass_of_methodNamed B.named
  have cx : CallFix p m c cX0_afterMore 2 s args wsX0_afterMore RX0 := ⟨hx, hb, hml, hown, hts⟩
  subst hsz
  have hD := hD0.self (sz := s.heap.size)
  generalize hAe : va_A (oX0 T q S) s.heap.size = A at hD hE0 ⊢
  have hE : gE A s s.heap := hE0
  have hA : ∀ q : Nat, s.heap.size ≤ q → A q := fun q h => by rw [← hAe]; exact Or.inr h
  have hS : va_S A s.heap s.heap [] := va_S.rf
  refine w_entry ha (Nat.le_of_ble_eq_true rfl) (fun ls hl => ?_)
  refine w_q (fun Q0 hQ => ?_)
  have lk23 := hts (.fieldLink RX0 23 "WhistleTunes$Grammar" "depth" "I") (by decide +kernel)
  have hinX0 : ∀ w ∈ wsX00, w ∈ wsX0_afterMore := by decide +kernel
  have lk9 := hts (.fieldLink RX0 9 "WhistleTunes$Grammar" "isEvening" "Z") (by decide +kernel)
  have hl : lv_has ls 2 [(0, .ref (q 0)), (1, .int (nI cc))] := hl
  have hP : va_P G vwCl [(q 0, .inr (0, [.int (S 0 0), .int (S 0 1), .int (S 0 2)]))] s.heap := hP
  have hD : va_D A [(q 0, .inr (0, [.int (S 0 0), .int (S 0 1), .int (S 0 2)]))] := hD
  skip
  refine w_h (fun H locs hHe hLe => ?_)
  have hP : va_P G vwCl [(q 0, .inr (0, [.int (S 0 0), .int (S 0 1), .int (S 0 2)]))] H := by rw [hHe]; exact hP
  have hS : va_S A s.heap H locs := by rw [hHe, hLe]; exact hS
  refine lv_iload_n hx hb dX0_afterMore_0 rfl (lv_at hl 1 rfl) ?_
  refine lv_bipush (v := nI 41) hx hb dX0_afterMore_1 (by decide) ?_
  refine n_icmp_ne (a := cc) (b := 41) (tgt := 26) hx hb (by omega) (by decide) dX0_afterMore_3 (by decide) (fun c_1 => ?_) (fun c_2 => ?_)
  · skip
    refine lv_iload_n hx hb dX0_afterMore_26 rfl (lv_at hl 1 rfl) ?_
    refine lv_bipush (v := nI 44) hx hb dX0_afterMore_27 (by decide) ?_
    refine n_icmp_ne (a := cc) (b := 44) (tgt := 48) hx hb (by omega) (by decide) dX0_afterMore_29 (by decide) (fun c_3 => ?_) (fun c_4 => ?_)
    · skip
      refine lv_aload_n hx hb dX0_afterMore_48 rfl (lv_at hl 0 rfl) ?_
      refine lv_iload_n hx hb dX0_afterMore_49 rfl (lv_at hl 1 rfl) ?_
      refine k_rwV (As := [.int (nI cc)]) (rest := []) (wc := oX0 T q S) (wr := []) (w1 := oX0 T q (sc S 1 (nI (gIt cc dd).2))) (d := 4) (mc := 0) (ms := 0) (v := nI (gIt cc dd).1) (isC := [0]) (isR := []) cx (c_X0_afterItem l G T H.size q S cc dd (by omega) (by first | assumption | rfl | omega) (by omega)) (cwV 1 hts gX0_afterMore_X0_afterItem rfl rfl rfl (by decide +kernel) ⟨Nat.le_of_ble_eq_true rfl, Nat.le_of_ble_eq_true rfl⟩) ⟨hP, hD, hS, hA, hE, hK, rfl, rfl, rfl, rfl, by decide⟩ (va_recv hK hP (ci := 0) (q0 := 0) rfl rfl) rfl hl.1 rfl (Nat.le_of_ble_eq_true rfl) dX0_afterMore_50 ⟨Nat.le_of_ble_eq_true rfl, Nat.le_of_ble_eq_true rfl⟩ (fun H locs hP hD hS hz => ?_)
      have hP : va_P G vwCl [(q 0, .inr (0, [.int (S 0 0), .int (nI (gIt cc dd).2), .int (S 0 2)]))] H := hP
      have hD : va_D A [(q 0, .inr (0, [.int (S 0 0), .int (nI (gIt cc dd).2), .int (S 0 2)]))] := hD
      subst hQ
      have e_5 : nI (gIt cc dd).2 = nI (gMo cc dd ev).2 := (by first | (exfalso; omega) | (skip; (first | rw [hd] | skip); ((unfold gMo; first | rw [if_pos (show cc = 41 ∧ 0 < dd by omega)] | (rw [if_neg (show ¬ (cc = 41 ∧ 0 < dd) by omega)]; first | rw [if_pos (show cc = 44 ∧ dd = 0 ∧ ev = true from ⟨by omega, by omega, by assumption⟩)] | rw [if_neg (fun h => by obtain ⟨h1, h2, h3⟩ := h; first | omega | cases h3.symm.trans (show ev = false by assumption))])) <;> rfl)))
      rw [e_5] at hP hD
      have hP9 : va_P G vwCl (oX0 T q (sc S 1 (nI (gMo cc dd ev).2))) H := hP
      have hD9 : va_D A (oX0 T q (sc S 1 (nI (gMo cc dd ev).2))) := hD
      exact e_rwi hx hb hr hlocks hS (by first | (exfalso; omega) | (skip; ((unfold gMo; first | rw [if_pos (show cc = 41 ∧ 0 < dd by omega)] | (rw [if_neg (show ¬ (cc = 41 ∧ 0 < dd) by omega)]; first | rw [if_pos (show cc = 44 ∧ dd = 0 ∧ ev = true from ⟨by omega, by omega, by assumption⟩)] | rw [if_neg (fun h => by obtain ⟨h1, h2, h3⟩ := h; first | omega | cases h3.symm.trans (show ev = false by assumption))])) <;> rfl))) hP9 hD9 dX0_afterMore_53
    · skip
      refine lv_aload_n hx hb dX0_afterMore_32 rfl (lv_at hl 0 rfl) ?_
      refine va_get (D := G) (ci := 0) (v := .int (S 0 1)) (C := RX0) (T := TX0) (N := 3) hx hb hts hinX0 hown hK hP 0 rfl rfl 1 (by decide) lk23 (fun _ h9 => h9) rfl dX0_afterMore_33 ?_
      refine n_top (y := nI dd) hd ?_
      refine n_if_ne (a := dd) (tgt := 48) hx hb (by omega) dX0_afterMore_36 (by decide) (fun c_6 => ?_) (fun c_7 => ?_)
      · skip
        refine lv_aload_n hx hb dX0_afterMore_48 rfl (lv_at hl 0 rfl) ?_
        refine lv_iload_n hx hb dX0_afterMore_49 rfl (lv_at hl 1 rfl) ?_
        refine k_rwV (As := [.int (nI cc)]) (rest := []) (wc := oX0 T q S) (wr := []) (w1 := oX0 T q (sc S 1 (nI (gIt cc dd).2))) (d := 4) (mc := 0) (ms := 0) (v := nI (gIt cc dd).1) (isC := [0]) (isR := []) cx (c_X0_afterItem l G T H.size q S cc dd (by omega) (by first | assumption | rfl | omega) (by omega)) (cwV 1 hts gX0_afterMore_X0_afterItem rfl rfl rfl (by decide +kernel) ⟨Nat.le_of_ble_eq_true rfl, Nat.le_of_ble_eq_true rfl⟩) ⟨hP, hD, hS, hA, hE, hK, rfl, rfl, rfl, rfl, by decide⟩ (va_recv hK hP (ci := 0) (q0 := 0) rfl rfl) rfl hl.1 rfl (Nat.le_of_ble_eq_true rfl) dX0_afterMore_50 ⟨Nat.le_of_ble_eq_true rfl, Nat.le_of_ble_eq_true rfl⟩ (fun H locs hP hD hS hz => ?_)
        have hP : va_P G vwCl [(q 0, .inr (0, [.int (S 0 0), .int (nI (gIt cc dd).2), .int (S 0 2)]))] H := hP
        have hD : va_D A [(q 0, .inr (0, [.int (S 0 0), .int (nI (gIt cc dd).2), .int (S 0 2)]))] := hD
        subst hQ
        have e_8 : nI (gIt cc dd).2 = nI (gMo cc dd ev).2 := (by first | (exfalso; omega) | (skip; (first | rw [hd] | skip); ((unfold gMo; first | rw [if_pos (show cc = 41 ∧ 0 < dd by omega)] | (rw [if_neg (show ¬ (cc = 41 ∧ 0 < dd) by omega)]; first | rw [if_pos (show cc = 44 ∧ dd = 0 ∧ ev = true from ⟨by omega, by omega, by assumption⟩)] | rw [if_neg (fun h => by obtain ⟨h1, h2, h3⟩ := h; first | omega | cases h3.symm.trans (show ev = false by assumption))])) <;> rfl)))
        rw [e_8] at hP hD
        have hP9 : va_P G vwCl (oX0 T q (sc S 1 (nI (gMo cc dd ev).2))) H := hP
        have hD9 : va_D A (oX0 T q (sc S 1 (nI (gMo cc dd ev).2))) := hD
        exact e_rwi hx hb hr hlocks hS (by first | (exfalso; omega) | (skip; ((unfold gMo; first | rw [if_pos (show cc = 41 ∧ 0 < dd by omega)] | (rw [if_neg (show ¬ (cc = 41 ∧ 0 < dd) by omega)]; first | rw [if_pos (show cc = 44 ∧ dd = 0 ∧ ev = true from ⟨by omega, by omega, by assumption⟩)] | rw [if_neg (fun h => by obtain ⟨h1, h2, h3⟩ := h; first | omega | cases h3.symm.trans (show ev = false by assumption))])) <;> rfl))) hP9 hD9 dX0_afterMore_53
      · skip
        refine lv_aload_n hx hb dX0_afterMore_39 rfl (lv_at hl 0 rfl) ?_
        refine va_get (D := G) (ci := 0) (v := .int (S 0 2)) (C := RX0) (T := TX0) (N := 3) hx hb hts hinX0 hown hK hP 0 rfl rfl 2 (by decide) lk9 (fun _ h9 => h9) rfl dX0_afterMore_40 ?_
        refine n_top (y := bI ev) hev ?_
        refine b_if_eq (b := ev) (tgt := 48) hx hb dX0_afterMore_43 (by decide) (fun c_9 => ?_) (fun c_10 => ?_)
        · skip
          refine lv_aload_n hx hb dX0_afterMore_48 rfl (lv_at hl 0 rfl) ?_
          refine lv_iload_n hx hb dX0_afterMore_49 rfl (lv_at hl 1 rfl) ?_
          refine k_rwV (As := [.int (nI cc)]) (rest := []) (wc := oX0 T q S) (wr := []) (w1 := oX0 T q (sc S 1 (nI (gIt cc dd).2))) (d := 4) (mc := 0) (ms := 0) (v := nI (gIt cc dd).1) (isC := [0]) (isR := []) cx (c_X0_afterItem l G T H.size q S cc dd (by omega) (by first | assumption | rfl | omega) (by omega)) (cwV 1 hts gX0_afterMore_X0_afterItem rfl rfl rfl (by decide +kernel) ⟨Nat.le_of_ble_eq_true rfl, Nat.le_of_ble_eq_true rfl⟩) ⟨hP, hD, hS, hA, hE, hK, rfl, rfl, rfl, rfl, by decide⟩ (va_recv hK hP (ci := 0) (q0 := 0) rfl rfl) rfl hl.1 rfl (Nat.le_of_ble_eq_true rfl) dX0_afterMore_50 ⟨Nat.le_of_ble_eq_true rfl, Nat.le_of_ble_eq_true rfl⟩ (fun H locs hP hD hS hz => ?_)
          have hP : va_P G vwCl [(q 0, .inr (0, [.int (S 0 0), .int (nI (gIt cc dd).2), .int (S 0 2)]))] H := hP
          have hD : va_D A [(q 0, .inr (0, [.int (S 0 0), .int (nI (gIt cc dd).2), .int (S 0 2)]))] := hD
          subst hQ
          have e_11 : nI (gIt cc dd).2 = nI (gMo cc dd ev).2 := (by first | (exfalso; omega) | (skip; (first | rw [hd] | skip); ((unfold gMo; first | rw [if_pos (show cc = 41 ∧ 0 < dd by omega)] | (rw [if_neg (show ¬ (cc = 41 ∧ 0 < dd) by omega)]; first | rw [if_pos (show cc = 44 ∧ dd = 0 ∧ ev = true from ⟨by omega, by omega, by assumption⟩)] | rw [if_neg (fun h => by obtain ⟨h1, h2, h3⟩ := h; first | omega | cases h3.symm.trans (show ev = false by assumption))])) <;> rfl)))
          rw [e_11] at hP hD
          have hP9 : va_P G vwCl (oX0 T q (sc S 1 (nI (gMo cc dd ev).2))) H := hP
          have hD9 : va_D A (oX0 T q (sc S 1 (nI (gMo cc dd ev).2))) := hD
          exact e_rwi hx hb hr hlocks hS (by first | (exfalso; omega) | (skip; ((unfold gMo; first | rw [if_pos (show cc = 41 ∧ 0 < dd by omega)] | (rw [if_neg (show ¬ (cc = 41 ∧ 0 < dd) by omega)]; first | rw [if_pos (show cc = 44 ∧ dd = 0 ∧ ev = true from ⟨by omega, by omega, by assumption⟩)] | rw [if_neg (fun h => by obtain ⟨h1, h2, h3⟩ := h; first | omega | cases h3.symm.trans (show ev = false by assumption))])) <;> rfl))) hP9 hD9 dX0_afterMore_53
        · skip
          refine n_iconst hx hb 1 dX0_afterMore_46 (by decide) ?_
          subst hQ
          have e_12 : S 0 1 = nI (gMo cc dd ev).2 := (by first | (exfalso; omega) | (skip; (first | rw [hd] | skip); ((unfold gMo; first | rw [if_pos (show cc = 41 ∧ 0 < dd by omega)] | (rw [if_neg (show ¬ (cc = 41 ∧ 0 < dd) by omega)]; first | rw [if_pos (show cc = 44 ∧ dd = 0 ∧ ev = true from ⟨by omega, by omega, by assumption⟩)] | rw [if_neg (fun h => by obtain ⟨h1, h2, h3⟩ := h; first | omega | cases h3.symm.trans (show ev = false by assumption))])) <;> rfl)))
          rw [e_12] at hP hD
          have hP9 : va_P G vwCl (oX0 T q (sc S 1 (nI (gMo cc dd ev).2))) H := hP
          have hD9 : va_D A (oX0 T q (sc S 1 (nI (gMo cc dd ev).2))) := hD
          exact e_rwi hx hb hr hlocks hS (by first | (exfalso; omega) | (skip; ((unfold gMo; first | rw [if_pos (show cc = 41 ∧ 0 < dd by omega)] | (rw [if_neg (show ¬ (cc = 41 ∧ 0 < dd) by omega)]; first | rw [if_pos (show cc = 44 ∧ dd = 0 ∧ ev = true from ⟨by omega, by omega, by assumption⟩)] | rw [if_neg (fun h => by obtain ⟨h1, h2, h3⟩ := h; first | omega | cases h3.symm.trans (show ev = false by assumption))])) <;> rfl))) hP9 hD9 dX0_afterMore_47
  · skip
    refine lv_aload_n hx hb dX0_afterMore_6 rfl (lv_at hl 0 rfl) ?_
    refine va_get (D := G) (ci := 0) (v := .int (S 0 1)) (C := RX0) (T := TX0) (N := 3) hx hb hts hinX0 hown hK hP 0 rfl rfl 1 (by decide) lk23 (fun _ h9 => h9) rfl dX0_afterMore_7 ?_
    refine n_top (y := nI dd) hd ?_
    refine n_if_le (a := dd) (tgt := 26) hx hb (by omega) dX0_afterMore_10 (by decide) (fun c_13 => ?_) (fun c_14 => ?_)
    · skip
      refine lv_iload_n hx hb dX0_afterMore_26 rfl (lv_at hl 1 rfl) ?_
      refine lv_bipush (v := nI 44) hx hb dX0_afterMore_27 (by decide) ?_
      refine n_icmp_ne (a := cc) (b := 44) (tgt := 48) hx hb (by omega) (by decide) dX0_afterMore_29 (by decide) (fun c_15 => ?_) (fun c_16 => ?_)
      · skip
        refine lv_aload_n hx hb dX0_afterMore_48 rfl (lv_at hl 0 rfl) ?_
        refine lv_iload_n hx hb dX0_afterMore_49 rfl (lv_at hl 1 rfl) ?_
        refine k_rwV (As := [.int (nI cc)]) (rest := []) (wc := oX0 T q S) (wr := []) (w1 := oX0 T q (sc S 1 (nI (gIt cc dd).2))) (d := 4) (mc := 0) (ms := 0) (v := nI (gIt cc dd).1) (isC := [0]) (isR := []) cx (c_X0_afterItem l G T H.size q S cc dd (by omega) (by first | assumption | rfl | omega) (by omega)) (cwV 1 hts gX0_afterMore_X0_afterItem rfl rfl rfl (by decide +kernel) ⟨Nat.le_of_ble_eq_true rfl, Nat.le_of_ble_eq_true rfl⟩) ⟨hP, hD, hS, hA, hE, hK, rfl, rfl, rfl, rfl, by decide⟩ (va_recv hK hP (ci := 0) (q0 := 0) rfl rfl) rfl hl.1 rfl (Nat.le_of_ble_eq_true rfl) dX0_afterMore_50 ⟨Nat.le_of_ble_eq_true rfl, Nat.le_of_ble_eq_true rfl⟩ (fun H locs hP hD hS hz => ?_)
        have hP : va_P G vwCl [(q 0, .inr (0, [.int (S 0 0), .int (nI (gIt cc dd).2), .int (S 0 2)]))] H := hP
        have hD : va_D A [(q 0, .inr (0, [.int (S 0 0), .int (nI (gIt cc dd).2), .int (S 0 2)]))] := hD
        subst hQ
        have e_17 : nI (gIt cc dd).2 = nI (gMo cc dd ev).2 := (by first | (exfalso; omega) | (skip; (first | rw [hd] | skip); ((unfold gMo; first | rw [if_pos (show cc = 41 ∧ 0 < dd by omega)] | (rw [if_neg (show ¬ (cc = 41 ∧ 0 < dd) by omega)]; first | rw [if_pos (show cc = 44 ∧ dd = 0 ∧ ev = true from ⟨by omega, by omega, by assumption⟩)] | rw [if_neg (fun h => by obtain ⟨h1, h2, h3⟩ := h; first | omega | cases h3.symm.trans (show ev = false by assumption))])) <;> rfl)))
        rw [e_17] at hP hD
        have hP9 : va_P G vwCl (oX0 T q (sc S 1 (nI (gMo cc dd ev).2))) H := hP
        have hD9 : va_D A (oX0 T q (sc S 1 (nI (gMo cc dd ev).2))) := hD
        exact e_rwi hx hb hr hlocks hS (by first | (exfalso; omega) | (skip; ((unfold gMo; first | rw [if_pos (show cc = 41 ∧ 0 < dd by omega)] | (rw [if_neg (show ¬ (cc = 41 ∧ 0 < dd) by omega)]; first | rw [if_pos (show cc = 44 ∧ dd = 0 ∧ ev = true from ⟨by omega, by omega, by assumption⟩)] | rw [if_neg (fun h => by obtain ⟨h1, h2, h3⟩ := h; first | omega | cases h3.symm.trans (show ev = false by assumption))])) <;> rfl))) hP9 hD9 dX0_afterMore_53
      · skip
        refine lv_aload_n hx hb dX0_afterMore_32 rfl (lv_at hl 0 rfl) ?_
        refine va_get (D := G) (ci := 0) (v := .int (S 0 1)) (C := RX0) (T := TX0) (N := 3) hx hb hts hinX0 hown hK hP 0 rfl rfl 1 (by decide) lk23 (fun _ h9 => h9) rfl dX0_afterMore_33 ?_
        refine n_top (y := nI dd) hd ?_
        refine n_if_ne (a := dd) (tgt := 48) hx hb (by omega) dX0_afterMore_36 (by decide) (fun c_18 => ?_) (fun c_19 => ?_)
        · skip
          refine lv_aload_n hx hb dX0_afterMore_48 rfl (lv_at hl 0 rfl) ?_
          refine lv_iload_n hx hb dX0_afterMore_49 rfl (lv_at hl 1 rfl) ?_
          refine k_rwV (As := [.int (nI cc)]) (rest := []) (wc := oX0 T q S) (wr := []) (w1 := oX0 T q (sc S 1 (nI (gIt cc dd).2))) (d := 4) (mc := 0) (ms := 0) (v := nI (gIt cc dd).1) (isC := [0]) (isR := []) cx (c_X0_afterItem l G T H.size q S cc dd (by omega) (by first | assumption | rfl | omega) (by omega)) (cwV 1 hts gX0_afterMore_X0_afterItem rfl rfl rfl (by decide +kernel) ⟨Nat.le_of_ble_eq_true rfl, Nat.le_of_ble_eq_true rfl⟩) ⟨hP, hD, hS, hA, hE, hK, rfl, rfl, rfl, rfl, by decide⟩ (va_recv hK hP (ci := 0) (q0 := 0) rfl rfl) rfl hl.1 rfl (Nat.le_of_ble_eq_true rfl) dX0_afterMore_50 ⟨Nat.le_of_ble_eq_true rfl, Nat.le_of_ble_eq_true rfl⟩ (fun H locs hP hD hS hz => ?_)
          have hP : va_P G vwCl [(q 0, .inr (0, [.int (S 0 0), .int (nI (gIt cc dd).2), .int (S 0 2)]))] H := hP
          have hD : va_D A [(q 0, .inr (0, [.int (S 0 0), .int (nI (gIt cc dd).2), .int (S 0 2)]))] := hD
          subst hQ
          have e_20 : nI (gIt cc dd).2 = nI (gMo cc dd ev).2 := (by first | (exfalso; omega) | (skip; (first | rw [hd] | skip); ((unfold gMo; first | rw [if_pos (show cc = 41 ∧ 0 < dd by omega)] | (rw [if_neg (show ¬ (cc = 41 ∧ 0 < dd) by omega)]; first | rw [if_pos (show cc = 44 ∧ dd = 0 ∧ ev = true from ⟨by omega, by omega, by assumption⟩)] | rw [if_neg (fun h => by obtain ⟨h1, h2, h3⟩ := h; first | omega | cases h3.symm.trans (show ev = false by assumption))])) <;> rfl)))
          rw [e_20] at hP hD
          have hP9 : va_P G vwCl (oX0 T q (sc S 1 (nI (gMo cc dd ev).2))) H := hP
          have hD9 : va_D A (oX0 T q (sc S 1 (nI (gMo cc dd ev).2))) := hD
          exact e_rwi hx hb hr hlocks hS (by first | (exfalso; omega) | (skip; ((unfold gMo; first | rw [if_pos (show cc = 41 ∧ 0 < dd by omega)] | (rw [if_neg (show ¬ (cc = 41 ∧ 0 < dd) by omega)]; first | rw [if_pos (show cc = 44 ∧ dd = 0 ∧ ev = true from ⟨by omega, by omega, by assumption⟩)] | rw [if_neg (fun h => by obtain ⟨h1, h2, h3⟩ := h; first | omega | cases h3.symm.trans (show ev = false by assumption))])) <;> rfl))) hP9 hD9 dX0_afterMore_53
        · skip
          refine lv_aload_n hx hb dX0_afterMore_39 rfl (lv_at hl 0 rfl) ?_
          refine va_get (D := G) (ci := 0) (v := .int (S 0 2)) (C := RX0) (T := TX0) (N := 3) hx hb hts hinX0 hown hK hP 0 rfl rfl 2 (by decide) lk9 (fun _ h9 => h9) rfl dX0_afterMore_40 ?_
          refine n_top (y := bI ev) hev ?_
          refine b_if_eq (b := ev) (tgt := 48) hx hb dX0_afterMore_43 (by decide) (fun c_21 => ?_) (fun c_22 => ?_)
          · skip
            refine lv_aload_n hx hb dX0_afterMore_48 rfl (lv_at hl 0 rfl) ?_
            refine lv_iload_n hx hb dX0_afterMore_49 rfl (lv_at hl 1 rfl) ?_
            refine k_rwV (As := [.int (nI cc)]) (rest := []) (wc := oX0 T q S) (wr := []) (w1 := oX0 T q (sc S 1 (nI (gIt cc dd).2))) (d := 4) (mc := 0) (ms := 0) (v := nI (gIt cc dd).1) (isC := [0]) (isR := []) cx (c_X0_afterItem l G T H.size q S cc dd (by omega) (by first | assumption | rfl | omega) (by omega)) (cwV 1 hts gX0_afterMore_X0_afterItem rfl rfl rfl (by decide +kernel) ⟨Nat.le_of_ble_eq_true rfl, Nat.le_of_ble_eq_true rfl⟩) ⟨hP, hD, hS, hA, hE, hK, rfl, rfl, rfl, rfl, by decide⟩ (va_recv hK hP (ci := 0) (q0 := 0) rfl rfl) rfl hl.1 rfl (Nat.le_of_ble_eq_true rfl) dX0_afterMore_50 ⟨Nat.le_of_ble_eq_true rfl, Nat.le_of_ble_eq_true rfl⟩ (fun H locs hP hD hS hz => ?_)
            have hP : va_P G vwCl [(q 0, .inr (0, [.int (S 0 0), .int (nI (gIt cc dd).2), .int (S 0 2)]))] H := hP
            have hD : va_D A [(q 0, .inr (0, [.int (S 0 0), .int (nI (gIt cc dd).2), .int (S 0 2)]))] := hD
            subst hQ
            have e_23 : nI (gIt cc dd).2 = nI (gMo cc dd ev).2 := (by first | (exfalso; omega) | (skip; (first | rw [hd] | skip); ((unfold gMo; first | rw [if_pos (show cc = 41 ∧ 0 < dd by omega)] | (rw [if_neg (show ¬ (cc = 41 ∧ 0 < dd) by omega)]; first | rw [if_pos (show cc = 44 ∧ dd = 0 ∧ ev = true from ⟨by omega, by omega, by assumption⟩)] | rw [if_neg (fun h => by obtain ⟨h1, h2, h3⟩ := h; first | omega | cases h3.symm.trans (show ev = false by assumption))])) <;> rfl)))
            rw [e_23] at hP hD
            have hP9 : va_P G vwCl (oX0 T q (sc S 1 (nI (gMo cc dd ev).2))) H := hP
            have hD9 : va_D A (oX0 T q (sc S 1 (nI (gMo cc dd ev).2))) := hD
            exact e_rwi hx hb hr hlocks hS (by first | (exfalso; omega) | (skip; ((unfold gMo; first | rw [if_pos (show cc = 41 ∧ 0 < dd by omega)] | (rw [if_neg (show ¬ (cc = 41 ∧ 0 < dd) by omega)]; first | rw [if_pos (show cc = 44 ∧ dd = 0 ∧ ev = true from ⟨by omega, by omega, by assumption⟩)] | rw [if_neg (fun h => by obtain ⟨h1, h2, h3⟩ := h; first | omega | cases h3.symm.trans (show ev = false by assumption))])) <;> rfl))) hP9 hD9 dX0_afterMore_53
          · skip
            refine n_iconst hx hb 1 dX0_afterMore_46 (by decide) ?_
            subst hQ
            have e_24 : S 0 1 = nI (gMo cc dd ev).2 := (by first | (exfalso; omega) | (skip; (first | rw [hd] | skip); ((unfold gMo; first | rw [if_pos (show cc = 41 ∧ 0 < dd by omega)] | (rw [if_neg (show ¬ (cc = 41 ∧ 0 < dd) by omega)]; first | rw [if_pos (show cc = 44 ∧ dd = 0 ∧ ev = true from ⟨by omega, by omega, by assumption⟩)] | rw [if_neg (fun h => by obtain ⟨h1, h2, h3⟩ := h; first | omega | cases h3.symm.trans (show ev = false by assumption))])) <;> rfl)))
            rw [e_24] at hP hD
            have hP9 : va_P G vwCl (oX0 T q (sc S 1 (nI (gMo cc dd ev).2))) H := hP
            have hD9 : va_D A (oX0 T q (sc S 1 (nI (gMo cc dd ev).2))) := hD
            exact e_rwi hx hb hr hlocks hS (by first | (exfalso; omega) | (skip; ((unfold gMo; first | rw [if_pos (show cc = 41 ∧ 0 < dd by omega)] | (rw [if_neg (show ¬ (cc = 41 ∧ 0 < dd) by omega)]; first | rw [if_pos (show cc = 44 ∧ dd = 0 ∧ ev = true from ⟨by omega, by omega, by assumption⟩)] | rw [if_neg (fun h => by obtain ⟨h1, h2, h3⟩ := h; first | omega | cases h3.symm.trans (show ev = false by assumption))])) <;> rfl))) hP9 hD9 dX0_afterMore_47
    · skip
      refine lv_aload_n hx hb dX0_afterMore_13 rfl (lv_at hl 0 rfl) ?_
      refine lv_dup hx hb dX0_afterMore_14 rfl ?_
      refine va_get (D := G) (ci := 0) (v := .int (S 0 1)) (C := RX0) (T := TX0) (N := 3) hx hb hts hinX0 hown hK hP 0 rfl rfl 1 (by decide) lk23 (fun _ h9 => h9) rfl dX0_afterMore_15 ?_
      refine n_top (y := nI dd) hd ?_
      refine n_iconst hx hb 1 dX0_afterMore_18 (by decide) ?_
      refine n_isub (a := dd) (b := 1) hx hb (by omega) dX0_afterMore_19 ?_
      refine va_put (D := G) (ci := 0) (v := .int (nI (dd - 1))) (ty := .int) (C := RX0) (T := TX0) (N := 3) hx hb hts hinX0 tyX0 tyX0_ok nmX0 hown hK hP hD hS 0 rfl rfl 1 (by decide) lk23 (fun _ h9 => h9) rfl (by decide +kernel) rfl rfl (Nat.le_of_ble_eq_true rfl) dX0_afterMore_20 (fun H locs hP hD hS => ?_)
      have hP : va_P G vwCl [(q 0, .inr (0, [.int (S 0 0), .int (nI (dd - 1)), .int (S 0 2)]))] H := hP
      have hD : va_D A [(q 0, .inr (0, [.int (S 0 0), .int (nI (dd - 1)), .int (S 0 2)]))] := hD
      refine lv_bipush (v := nI 6) hx hb dX0_afterMore_23 (by decide) ?_
      subst hQ
      have e_25 : nI (dd - 1) = nI (gMo cc dd ev).2 := (by first | (exfalso; omega) | (skip; (first | rw [hd] | skip); ((unfold gMo; first | rw [if_pos (show cc = 41 ∧ 0 < dd by omega)] | (rw [if_neg (show ¬ (cc = 41 ∧ 0 < dd) by omega)]; first | rw [if_pos (show cc = 44 ∧ dd = 0 ∧ ev = true from ⟨by omega, by omega, by assumption⟩)] | rw [if_neg (fun h => by obtain ⟨h1, h2, h3⟩ := h; first | omega | cases h3.symm.trans (show ev = false by assumption))])) <;> rfl)))
      rw [e_25] at hP hD
      have hP9 : va_P G vwCl (oX0 T q (sc S 1 (nI (gMo cc dd ev).2))) H := hP
      have hD9 : va_D A (oX0 T q (sc S 1 (nI (gMo cc dd ev).2))) := hD
      exact e_rwi hx hb hr hlocks hS (by first | (exfalso; omega) | (skip; ((unfold gMo; first | rw [if_pos (show cc = 41 ∧ 0 < dd by omega)] | (rw [if_neg (show ¬ (cc = 41 ∧ 0 < dd) by omega)]; first | rw [if_pos (show cc = 44 ∧ dd = 0 ∧ ev = true from ⟨by omega, by omega, by assumption⟩)] | rw [if_neg (fun h => by obtain ⟨h1, h2, h3⟩ := h; first | omega | cases h3.symm.trans (show ev = false by assumption))])) <;> rfl))) hP9 hD9 dX0_afterMore_25
set_option maxHeartbeats 4000000 in
set_option maxRecDepth 100000 in
theorem c_X0_after (l : Launch) (G : va_G) (T : Nat → ClassId) (sz : Nat) (q : Nat → Nat) (S : Nat → Nat → Int32) (cc : Nat) (dd : Nat) (ev : Bool) (ex : Nat) (hc : cc < 128) (hd : S 0 1 = nI dd) (hd3 : dd ≤ 3) (hev : S 0 2 = bI ev) (hex : S 0 0 = nI ex) (hex13 : ex ≤ 13) : RWi l yX0_after wsX0_after 6 0 0 G T sz (oX0 T q S) [.ref (q 0), .int (nI cc)] (nI (gAf ex cc dd ev).1) (oX0 T q (sc S 1 (nI (gAf ex cc dd ev).2))) := by
  refine Met.ofW (cc := cX0_after) (maxL := 2) (ret := (some .int)) (by decide) rfl ?_
  intro p e s m args below meth c s₁ B hml hv
  obtain ⟨ha, hsz, hP, hK, hD0, hE0⟩ := hv
  have hx := B.exec
  have hb := B.bytes
  have hr := B.returns
  have hlocks := B.notSynchronized
  have hts := atoms_spec (ws := wsX0_after) B.pre
  have hown : s.vm.findClass RX0 = some m.cls := findClass_of_methodNamed B.named
  have cx : CallFix p m c cX0_after 2 s args wsX0_after RX0 := ⟨hx, hb, hml, hown, hts⟩
  subst hsz
  have hD := hD0.self (sz := s.heap.size)
  generalize hAe : va_A (oX0 T q S) s.heap.size = A at hD hE0 ⊢
  have hE : gE A s s.heap := hE0
  have hA : ∀ q : Nat, s.heap.size ≤ q → A q := fun q h => by rw [← hAe]; exact Or.inr h
  have hS : va_S A s.heap s.heap [] := va_S.rf
  refine w_entry ha (Nat.le_of_ble_eq_true rfl) (fun ls hl => ?_)
  refine w_q (fun Q0 hQ => ?_)
  have lk19 := hts (.fieldLink RX0 19 "WhistleTunes$Grammar" "expected" "I") (by decide +kernel)
  have hinX0 : ∀ w ∈ wsX00, w ∈ wsX0_after := by decide +kernel
  have hl : lv_has ls 2 [(0, .ref (q 0)), (1, .int (nI cc))] := hl
  have hP : va_P G vwCl [(q 0, .inr (0, [.int (S 0 0), .int (S 0 1), .int (S 0 2)]))] s.heap := hP
  have hD : va_D A [(q 0, .inr (0, [.int (S 0 0), .int (S 0 1), .int (S 0 2)]))] := hD
  skip
  refine w_h (fun H locs hHe hLe => ?_)
  have hP : va_P G vwCl [(q 0, .inr (0, [.int (S 0 0), .int (S 0 1), .int (S 0 2)]))] H := by rw [hHe]; exact hP
  have hS : va_S A s.heap H locs := by rw [hHe, hLe]; exact hS
  refine lv_aload_n hx hb dX0_after_0 rfl (lv_at hl 0 rfl) ?_
  refine va_get (D := G) (ci := 0) (v := .int (S 0 0)) (C := RX0) (T := TX0) (N := 3) hx hb hts hinX0 hown hK hP 0 rfl rfl 0 (by decide) lk19 (fun _ h9 => h9) rfl dX0_after_1 ?_
  refine n_top (y := nI ex) hex ?_
  rcases (show ex = 0 ∨ ex = 1 ∨ ex = 2 ∨ ex = 3 ∨ ex = 4 ∨ ex = 5 ∨ ex = 6 ∨ ex = 7 ∨ ex = 8 ∨ ex = 9 ∨ ex = 10 ∨ ex = 11 ∨ ex = 12 ∨ ex = 13 by omega) with rfl | rfl | rfl | rfl | rfl | rfl | rfl | rfl | rfl | rfl | rfl | rfl | rfl | rfl
  · skip
    refine n_tabO (tgt := 261) hx hb dX0_after_4 1 13 (by decide) rfl rfl (by decide) ?_
    refine n_iconst hx hb 0 dX0_after_261 (by decide) ?_
    subst hQ
    have e_1 : S 0 1 = nI (gAf 0 cc dd ev).2 := (by first | exact hd | rfl)
    rw [e_1] at hP hD
    have hP9 : va_P G vwCl (oX0 T q (sc S 1 (nI (gAf 0 cc dd ev).2))) H := hP
    have hD9 : va_D A (oX0 T q (sc S 1 (nI (gAf 0 cc dd ev).2))) := hD
    exact e_rwi hx hb hr hlocks hS (by first | rfl | simp [gAf]) hP9 hD9 dX0_after_262
  · skip
    refine n_tab (a := 1) (off := 68) (tgt := 72) hx hb (by decide) dX0_after_4 (by decide) (by decide) rfl (by decide) ?_
    refine lv_iload_n hx hb dX0_after_72 rfl (lv_at hl 1 rfl) ?_
    refine k_roS (As := [.int (nI cc)]) (rest := []) (wc := []) (d := 1) (v := nI (gSta cc)) cx (c_X0_afterStart l G T A cc (by omega)) (va_cwS 1 hts gX0_after_X0_afterStart rfl rfl rfl (by decide +kernel) ⟨Nat.le_of_ble_eq_true rfl, Nat.le_of_ble_eq_true rfl⟩) (hP.sub (ws' := []) [] rfl) hK (hE.kept hS.2.1) rfl hl.1 rfl (Nat.le_of_ble_eq_true rfl) dX0_after_73 ⟨Nat.le_of_ble_eq_true rfl, Nat.le_of_ble_eq_true rfl⟩ ?_
    subst hQ
    have e_2 : S 0 1 = nI (gAf 1 cc dd ev).2 := (by first | exact hd | rfl)
    rw [e_2] at hP hD
    have hP9 : va_P G vwCl (oX0 T q (sc S 1 (nI (gAf 1 cc dd ev).2))) H := hP
    have hD9 : va_D A (oX0 T q (sc S 1 (nI (gAf 1 cc dd ev).2))) := hD
    exact e_rwi hx hb hr hlocks hS (by first | rfl | simp [gAf]) hP9 hD9 dX0_after_76
  · skip
    refine n_tab (a := 2) (off := 73) (tgt := 77) hx hb (by decide) dX0_after_4 (by decide) (by decide) rfl (by decide) ?_
    refine lv_iload_n hx hb dX0_after_77 rfl (lv_at hl 1 rfl) ?_
    refine lv_bipush (v := nI 48) hx hb dX0_after_78 (by decide) ?_
    refine lv_bipush (v := nI 57) hx hb dX0_after_80 (by decide) ?_
    refine k_roS (As := [.int (nI cc), .int (nI 48), .int (nI 57)]) (rest := []) (wc := []) (d := 0) (v := bI (pIn9 cc 48 57)) cx (c_X0_isIn l G T A cc 48 57 (by omega) (by omega) (by omega)) (va_cwS 3 hts gX0_after_X0_isIn rfl rfl rfl (by decide +kernel) ⟨Nat.le_of_ble_eq_true rfl, Nat.le_of_ble_eq_true rfl⟩) (hP.sub (ws' := []) [] rfl) hK (hE.kept hS.2.1) rfl hl.1 rfl (Nat.le_of_ble_eq_true rfl) dX0_after_82 ⟨Nat.le_of_ble_eq_true rfl, Nat.le_of_ble_eq_true rfl⟩ ?_
    refine b_if_eq (b := pIn9 cc 48 57) (tgt := 92) hx hb dX0_after_85 (by decide) (fun c_3 => ?_) (fun c_4 => ?_)
    · skip
      refine lv_iload_n hx hb dX0_after_92 rfl (lv_at hl 1 rfl) ?_
      refine lv_bipush (v := nI 61) hx hb dX0_after_93 (by decide) ?_
      refine n_iconst hx hb 4 dX0_after_95 (by decide) ?_
      refine k_roS (As := [.int (nI cc), .int (nI 61), .int (nI 4)]) (rest := []) (wc := []) (d := 0) (v := nI (gWh cc 61 4)) cx (c_X0_whenIs l G T A cc 61 4 (by omega) (by omega) (by omega)) (va_cwS 3 hts gX0_after_X0_whenIs rfl rfl rfl (by decide +kernel) ⟨Nat.le_of_ble_eq_true rfl, Nat.le_of_ble_eq_true rfl⟩) (hP.sub (ws' := []) [] rfl) hK (hE.kept hS.2.1) rfl hl.1 rfl (Nat.le_of_ble_eq_true rfl) dX0_after_96 ⟨Nat.le_of_ble_eq_true rfl, Nat.le_of_ble_eq_true rfl⟩ ?_
      subst hQ
      have e_5 : S 0 1 = nI (gAf 2 cc dd ev).2 := (by first | exact hd | rfl)
      rw [e_5] at hP hD
      have hP9 : va_P G vwCl (oX0 T q (sc S 1 (nI (gAf 2 cc dd ev).2))) H := hP
      have hD9 : va_D A (oX0 T q (sc S 1 (nI (gAf 2 cc dd ev).2))) := hD
      exact e_rwi hx hb hr hlocks hS (by first | rfl | simp [gAf, c_3]) hP9 hD9 dX0_after_99
    · skip
      refine n_iconst hx hb 3 dX0_after_88 (by decide) ?_
      refine lv_goto (tgt := 99) hx hb dX0_after_89 (by decide) ?_
      subst hQ
      have e_6 : S 0 1 = nI (gAf 2 cc dd ev).2 := (by first | exact hd | rfl)
      rw [e_6] at hP hD
      have hP9 : va_P G vwCl (oX0 T q (sc S 1 (nI (gAf 2 cc dd ev).2))) H := hP
      have hD9 : va_D A (oX0 T q (sc S 1 (nI (gAf 2 cc dd ev).2))) := hD
      exact e_rwi hx hb hr hlocks hS (by first | rfl | simp [gAf, c_4]) hP9 hD9 dX0_after_99
  · skip
    refine n_tab (a := 3) (off := 96) (tgt := 100) hx hb (by decide) dX0_after_4 (by decide) (by decide) rfl (by decide) ?_
    refine lv_iload_n hx hb dX0_after_100 rfl (lv_at hl 1 rfl) ?_
    refine lv_bipush (v := nI 61) hx hb dX0_after_101 (by decide) ?_
    refine n_iconst hx hb 4 dX0_after_103 (by decide) ?_
    refine k_roS (As := [.int (nI cc), .int (nI 61), .int (nI 4)]) (rest := []) (wc := []) (d := 0) (v := nI (gWh cc 61 4)) cx (c_X0_whenIs l G T A cc 61 4 (by omega) (by omega) (by omega)) (va_cwS 3 hts gX0_after_X0_whenIs rfl rfl rfl (by decide +kernel) ⟨Nat.le_of_ble_eq_true rfl, Nat.le_of_ble_eq_true rfl⟩) (hP.sub (ws' := []) [] rfl) hK (hE.kept hS.2.1) rfl hl.1 rfl (Nat.le_of_ble_eq_true rfl) dX0_after_104 ⟨Nat.le_of_ble_eq_true rfl, Nat.le_of_ble_eq_true rfl⟩ ?_
    subst hQ
    have e_7 : S 0 1 = nI (gAf 3 cc dd ev).2 := (by first | exact hd | rfl)
    rw [e_7] at hP hD
    have hP9 : va_P G vwCl (oX0 T q (sc S 1 (nI (gAf 3 cc dd ev).2))) H := hP
    have hD9 : va_D A (oX0 T q (sc S 1 (nI (gAf 3 cc dd ev).2))) := hD
    exact e_rwi hx hb hr hlocks hS (by first | rfl | simp [gAf]) hP9 hD9 dX0_after_107
  · skip
    refine n_tab (a := 4) (off := 104) (tgt := 108) hx hb (by decide) dX0_after_4 (by decide) (by decide) rfl (by decide) ?_
    refine lv_aload_n hx hb dX0_after_108 rfl (lv_at hl 0 rfl) ?_
    refine lv_iload_n hx hb dX0_after_109 rfl (lv_at hl 1 rfl) ?_
    refine k_rwV (As := [.int (nI cc)]) (rest := []) (wc := oX0 T q S) (wr := []) (w1 := oX0 T q (sc S 1 (nI (gIt cc dd).2))) (d := 4) (mc := 0) (ms := 0) (v := nI (gIt cc dd).1) (isC := [0]) (isR := []) cx (c_X0_afterItem l G T H.size q S cc dd (by omega) (by first | assumption | rfl | omega) (by omega)) (cwV 1 hts gX0_after_X0_afterItem rfl rfl rfl (by decide +kernel) ⟨Nat.le_of_ble_eq_true rfl, Nat.le_of_ble_eq_true rfl⟩) ⟨hP, hD, hS, hA, hE, hK, rfl, rfl, rfl, rfl, by decide⟩ (va_recv hK hP (ci := 0) (q0 := 0) rfl rfl) rfl hl.1 rfl (Nat.le_of_ble_eq_true rfl) dX0_after_110 ⟨Nat.le_of_ble_eq_true rfl, Nat.le_of_ble_eq_true rfl⟩ (fun H locs hP hD hS hz => ?_)
    have hP : va_P G vwCl [(q 0, .inr (0, [.int (S 0 0), .int (nI (gIt cc dd).2), .int (S 0 2)]))] H := hP
    have hD : va_D A [(q 0, .inr (0, [.int (S 0 0), .int (nI (gIt cc dd).2), .int (S 0 2)]))] := hD
    subst hQ
    have e_8 : nI (gIt cc dd).2 = nI (gAf 4 cc dd ev).2 := (by first | exact hd | rfl)
    rw [e_8] at hP hD
    have hP9 : va_P G vwCl (oX0 T q (sc S 1 (nI (gAf 4 cc dd ev).2))) H := hP
    have hD9 : va_D A (oX0 T q (sc S 1 (nI (gAf 4 cc dd ev).2))) := hD
    exact e_rwi hx hb hr hlocks hS (by first | rfl | simp [gAf]) hP9 hD9 dX0_after_113
  · skip
    refine n_tab (a := 5) (off := 110) (tgt := 114) hx hb (by decide) dX0_after_4 (by decide) (by decide) rfl (by decide) ?_
    refine lv_aload_n hx hb dX0_after_114 rfl (lv_at hl 0 rfl) ?_
    refine lv_iload_n hx hb dX0_after_115 rfl (lv_at hl 1 rfl) ?_
    refine k_rwV (As := [.int (nI cc)]) (rest := []) (wc := oX0 T q S) (wr := []) (w1 := oX0 T q (sc S 1 (nI (gMo cc dd ev).2))) (d := 5) (mc := 0) (ms := 0) (v := nI (gMo cc dd ev).1) (isC := [0]) (isR := []) cx (c_X0_afterMore l G T H.size q S cc dd ev (by omega) (by first | assumption | rfl | omega) (by omega) (by first | assumption | rfl | omega)) (cwV 1 hts gX0_after_X0_afterMore rfl rfl rfl (by decide +kernel) ⟨Nat.le_of_ble_eq_true rfl, Nat.le_of_ble_eq_true rfl⟩) ⟨hP, hD, hS, hA, hE, hK, rfl, rfl, rfl, rfl, by decide⟩ (va_recv hK hP (ci := 0) (q0 := 0) rfl rfl) rfl hl.1 rfl (Nat.le_of_ble_eq_true rfl) dX0_after_116 ⟨Nat.le_of_ble_eq_true rfl, Nat.le_of_ble_eq_true rfl⟩ (fun H locs hP hD hS hz => ?_)
    have hP : va_P G vwCl [(q 0, .inr (0, [.int (S 0 0), .int (nI (gMo cc dd ev).2), .int (S 0 2)]))] H := hP
    have hD : va_D A [(q 0, .inr (0, [.int (S 0 0), .int (nI (gMo cc dd ev).2), .int (S 0 2)]))] := hD
    subst hQ
    have e_9 : nI (gMo cc dd ev).2 = nI (gAf 5 cc dd ev).2 := (by first | exact hd | rfl)
    rw [e_9] at hP hD
    have hP9 : va_P G vwCl (oX0 T q (sc S 1 (nI (gAf 5 cc dd ev).2))) H := hP
    have hD9 : va_D A (oX0 T q (sc S 1 (nI (gAf 5 cc dd ev).2))) := hD
    exact e_rwi hx hb hr hlocks hS (by first | rfl | simp [gAf]) hP9 hD9 dX0_after_119
  · skip
    refine n_tab (a := 6) (off := 116) (tgt := 120) hx hb (by decide) dX0_after_4 (by decide) (by decide) rfl (by decide) ?_
    refine lv_iload_n hx hb dX0_after_120 rfl (lv_at hl 1 rfl) ?_
    refine lv_bipush (v := nI 50) hx hb dX0_after_121 (by decide) ?_
    refine lv_bipush (v := nI 51) hx hb dX0_after_123 (by decide) ?_
    refine k_roS (As := [.int (nI cc), .int (nI 50), .int (nI 51)]) (rest := []) (wc := []) (d := 0) (v := bI (pIn9 cc 50 51)) cx (c_X0_isIn l G T A cc 50 51 (by omega) (by omega) (by omega)) (va_cwS 3 hts gX0_after_X0_isIn rfl rfl rfl (by decide +kernel) ⟨Nat.le_of_ble_eq_true rfl, Nat.le_of_ble_eq_true rfl⟩) (hP.sub (ws' := []) [] rfl) hK (hE.kept hS.2.1) rfl hl.1 rfl (Nat.le_of_ble_eq_true rfl) dX0_after_125 ⟨Nat.le_of_ble_eq_true rfl, Nat.le_of_ble_eq_true rfl⟩ ?_
    refine b_if_eq (b := pIn9 cc 50 51) (tgt := 135) hx hb dX0_after_128 (by decide) (fun c_10 => ?_) (fun c_11 => ?_)
    · skip
      refine n_iconst hx hb 0 dX0_after_135 (by decide) ?_
      subst hQ
      have e_12 : S 0 1 = nI (gAf 6 cc dd ev).2 := (by first | exact hd | rfl)
      rw [e_12] at hP hD
      have hP9 : va_P G vwCl (oX0 T q (sc S 1 (nI (gAf 6 cc dd ev).2))) H := hP
      have hD9 : va_D A (oX0 T q (sc S 1 (nI (gAf 6 cc dd ev).2))) := hD
      exact e_rwi hx hb hr hlocks hS (by first | rfl | simp [gAf, c_10]) hP9 hD9 dX0_after_136
    · skip
      refine n_iconst hx hb 5 dX0_after_131 (by decide) ?_
      refine lv_goto (tgt := 136) hx hb dX0_after_132 (by decide) ?_
      subst hQ
      have e_13 : S 0 1 = nI (gAf 6 cc dd ev).2 := (by first | exact hd | rfl)
      rw [e_13] at hP hD
      have hP9 : va_P G vwCl (oX0 T q (sc S 1 (nI (gAf 6 cc dd ev).2))) H := hP
      have hD9 : va_D A (oX0 T q (sc S 1 (nI (gAf 6 cc dd ev).2))) := hD
      exact e_rwi hx hb hr hlocks hS (by first | rfl | simp [gAf, c_11]) hP9 hD9 dX0_after_136
  · skip
    refine n_tab (a := 7) (off := 133) (tgt := 137) hx hb (by decide) dX0_after_4 (by decide) (by decide) rfl (by decide) ?_
    refine lv_iload_n hx hb dX0_after_137 rfl (lv_at hl 1 rfl) ?_
    refine lv_bipush (v := nI 48) hx hb dX0_after_138 (by decide) ?_
    refine lv_bipush (v := nI 53) hx hb dX0_after_140 (by decide) ?_
    refine k_roS (As := [.int (nI cc), .int (nI 48), .int (nI 53)]) (rest := []) (wc := []) (d := 0) (v := bI (pIn9 cc 48 53)) cx (c_X0_isIn l G T A cc 48 53 (by omega) (by omega) (by omega)) (va_cwS 3 hts gX0_after_X0_isIn rfl rfl rfl (by decide +kernel) ⟨Nat.le_of_ble_eq_true rfl, Nat.le_of_ble_eq_true rfl⟩) (hP.sub (ws' := []) [] rfl) hK (hE.kept hS.2.1) rfl hl.1 rfl (Nat.le_of_ble_eq_true rfl) dX0_after_142 ⟨Nat.le_of_ble_eq_true rfl, Nat.le_of_ble_eq_true rfl⟩ ?_
    refine b_if_eq (b := pIn9 cc 48 53) (tgt := 153) hx hb dX0_after_145 (by decide) (fun c_14 => ?_) (fun c_15 => ?_)
    · skip
      refine n_iconst hx hb 0 dX0_after_153 (by decide) ?_
      subst hQ
      have e_16 : S 0 1 = nI (gAf 7 cc dd ev).2 := (by first | exact hd | rfl)
      rw [e_16] at hP hD
      have hP9 : va_P G vwCl (oX0 T q (sc S 1 (nI (gAf 7 cc dd ev).2))) H := hP
      have hD9 : va_D A (oX0 T q (sc S 1 (nI (gAf 7 cc dd ev).2))) := hD
      exact e_rwi hx hb hr hlocks hS (by first | rfl | simp [gAf, c_14]) hP9 hD9 dX0_after_154
    · skip
      refine lv_bipush (v := nI 8) hx hb dX0_after_148 (by decide) ?_
      refine lv_goto (tgt := 154) hx hb dX0_after_150 (by decide) ?_
      subst hQ
      have e_17 : S 0 1 = nI (gAf 7 cc dd ev).2 := (by first | exact hd | rfl)
      rw [e_17] at hP hD
      have hP9 : va_P G vwCl (oX0 T q (sc S 1 (nI (gAf 7 cc dd ev).2))) H := hP
      have hD9 : va_D A (oX0 T q (sc S 1 (nI (gAf 7 cc dd ev).2))) := hD
      exact e_rwi hx hb hr hlocks hS (by first | rfl | simp [gAf, c_15]) hP9 hD9 dX0_after_154
  · skip
    refine n_tab (a := 8) (off := 151) (tgt := 155) hx hb (by decide) dX0_after_4 (by decide) (by decide) rfl (by decide) ?_
    refine lv_iload_n hx hb dX0_after_155 rfl (lv_at hl 1 rfl) ?_
    refine lv_bipush (v := nI 58) hx hb dX0_after_156 (by decide) ?_
    refine lv_bipush (v := nI 9) hx hb dX0_after_158 (by decide) ?_
    refine k_roS (As := [.int (nI cc), .int (nI 58), .int (nI 9)]) (rest := []) (wc := []) (d := 0) (v := nI (gWh cc 58 9)) cx (c_X0_whenIs l G T A cc 58 9 (by omega) (by omega) (by omega)) (va_cwS 3 hts gX0_after_X0_whenIs rfl rfl rfl (by decide +kernel) ⟨Nat.le_of_ble_eq_true rfl, Nat.le_of_ble_eq_true rfl⟩) (hP.sub (ws' := []) [] rfl) hK (hE.kept hS.2.1) rfl hl.1 rfl (Nat.le_of_ble_eq_true rfl) dX0_after_160 ⟨Nat.le_of_ble_eq_true rfl, Nat.le_of_ble_eq_true rfl⟩ ?_
    subst hQ
    have e_18 : S 0 1 = nI (gAf 8 cc dd ev).2 := (by first | exact hd | rfl)
    rw [e_18] at hP hD
    have hP9 : va_P G vwCl (oX0 T q (sc S 1 (nI (gAf 8 cc dd ev).2))) H := hP
    have hD9 : va_D A (oX0 T q (sc S 1 (nI (gAf 8 cc dd ev).2))) := hD
    exact e_rwi hx hb hr hlocks hS (by first | rfl | simp [gAf]) hP9 hD9 dX0_after_163
  · skip
    refine n_tab (a := 9) (off := 160) (tgt := 164) hx hb (by decide) dX0_after_4 (by decide) (by decide) rfl (by decide) ?_
    refine lv_iload_n hx hb dX0_after_164 rfl (lv_at hl 1 rfl) ?_
    refine lv_bipush (v := nI 49) hx hb dX0_after_165 (by decide) ?_
    refine n_icmp_ne (a := cc) (b := 49) (tgt := 175) hx hb (by omega) (by decide) dX0_after_167 (by decide) (fun c_19 => ?_) (fun c_20 => ?_)
    · skip
      refine lv_iload_n hx hb dX0_after_175 rfl (lv_at hl 1 rfl) ?_
      refine lv_bipush (v := nI 48) hx hb dX0_after_176 (by decide) ?_
      refine lv_bipush (v := nI 57) hx hb dX0_after_178 (by decide) ?_
      refine k_roS (As := [.int (nI cc), .int (nI 48), .int (nI 57)]) (rest := []) (wc := []) (d := 0) (v := bI (pIn9 cc 48 57)) cx (c_X0_isIn l G T A cc 48 57 (by omega) (by omega) (by omega)) (va_cwS 3 hts gX0_after_X0_isIn rfl rfl rfl (by decide +kernel) ⟨Nat.le_of_ble_eq_true rfl, Nat.le_of_ble_eq_true rfl⟩) (hP.sub (ws' := []) [] rfl) hK (hE.kept hS.2.1) rfl hl.1 rfl (Nat.le_of_ble_eq_true rfl) dX0_after_180 ⟨Nat.le_of_ble_eq_true rfl, Nat.le_of_ble_eq_true rfl⟩ ?_
      refine b_if_eq (b := pIn9 cc 48 57) (tgt := 191) hx hb dX0_after_183 (by decide) (fun c_21 => ?_) (fun c_22 => ?_)
      · skip
        refine n_iconst hx hb 0 dX0_after_191 (by decide) ?_
        subst hQ
        have e_23 : S 0 1 = nI (gAf 9 cc dd ev).2 := (by first | exact hd | rfl)
        rw [e_23] at hP hD
        have hP9 : va_P G vwCl (oX0 T q (sc S 1 (nI (gAf 9 cc dd ev).2))) H := hP
        have hD9 : va_D A (oX0 T q (sc S 1 (nI (gAf 9 cc dd ev).2))) := hD
        exact e_rwi hx hb hr hlocks hS (by first | rfl | simp [gAf, c_19, c_21]) hP9 hD9 dX0_after_192
      · skip
        refine lv_bipush (v := nI 13) hx hb dX0_after_186 (by decide) ?_
        refine lv_goto (tgt := 192) hx hb dX0_after_188 (by decide) ?_
        subst hQ
        have e_24 : S 0 1 = nI (gAf 9 cc dd ev).2 := (by first | exact hd | rfl)
        rw [e_24] at hP hD
        have hP9 : va_P G vwCl (oX0 T q (sc S 1 (nI (gAf 9 cc dd ev).2))) H := hP
        have hD9 : va_D A (oX0 T q (sc S 1 (nI (gAf 9 cc dd ev).2))) := hD
        exact e_rwi hx hb hr hlocks hS (by first | rfl | simp [gAf, c_19, c_22]) hP9 hD9 dX0_after_192
    · skip
      refine lv_bipush (v := nI 10) hx hb dX0_after_170 (by decide) ?_
      refine lv_goto (tgt := 192) hx hb dX0_after_172 (by decide) ?_
      subst hQ
      have e_25 : S 0 1 = nI (gAf 9 cc dd ev).2 := (by first | exact hd | rfl)
      rw [e_25] at hP hD
      have hP9 : va_P G vwCl (oX0 T q (sc S 1 (nI (gAf 9 cc dd ev).2))) H := hP
      have hD9 : va_D A (oX0 T q (sc S 1 (nI (gAf 9 cc dd ev).2))) := hD
      exact e_rwi hx hb hr hlocks hS (by first | rfl | simp [gAf, c_20]) hP9 hD9 dX0_after_192
  · skip
    refine n_tab (a := 10) (off := 189) (tgt := 193) hx hb (by decide) dX0_after_4 (by decide) (by decide) rfl (by decide) ?_
    refine lv_iload_n hx hb dX0_after_193 rfl (lv_at hl 1 rfl) ?_
    refine lv_bipush (v := nI 48) hx hb dX0_after_194 (by decide) ?_
    refine lv_bipush (v := nI 57) hx hb dX0_after_196 (by decide) ?_
    refine k_roS (As := [.int (nI cc), .int (nI 48), .int (nI 57)]) (rest := []) (wc := []) (d := 0) (v := bI (pIn9 cc 48 57)) cx (c_X0_isIn l G T A cc 48 57 (by omega) (by omega) (by omega)) (va_cwS 3 hts gX0_after_X0_isIn rfl rfl rfl (by decide +kernel) ⟨Nat.le_of_ble_eq_true rfl, Nat.le_of_ble_eq_true rfl⟩) (hP.sub (ws' := []) [] rfl) hK (hE.kept hS.2.1) rfl hl.1 rfl (Nat.le_of_ble_eq_true rfl) dX0_after_198 ⟨Nat.le_of_ble_eq_true rfl, Nat.le_of_ble_eq_true rfl⟩ ?_
    refine b_if_eq (b := pIn9 cc 48 57) (tgt := 209) hx hb dX0_after_201 (by decide) (fun c_26 => ?_) (fun c_27 => ?_)
    · skip
      refine lv_iload_n hx hb dX0_after_209 rfl (lv_at hl 1 rfl) ?_
      refine lv_bipush (v := nI 44) hx hb dX0_after_210 (by decide) ?_
      refine n_iconst hx hb 1 dX0_after_212 (by decide) ?_
      refine k_roS (As := [.int (nI cc), .int (nI 44), .int (nI 1)]) (rest := []) (wc := []) (d := 0) (v := nI (gWh cc 44 1)) cx (c_X0_whenIs l G T A cc 44 1 (by omega) (by omega) (by omega)) (va_cwS 3 hts gX0_after_X0_whenIs rfl rfl rfl (by decide +kernel) ⟨Nat.le_of_ble_eq_true rfl, Nat.le_of_ble_eq_true rfl⟩) (hP.sub (ws' := []) [] rfl) hK (hE.kept hS.2.1) rfl hl.1 rfl (Nat.le_of_ble_eq_true rfl) dX0_after_213 ⟨Nat.le_of_ble_eq_true rfl, Nat.le_of_ble_eq_true rfl⟩ ?_
      subst hQ
      have e_28 : S 0 1 = nI (gAf 10 cc dd ev).2 := (by first | exact hd | rfl)
      rw [e_28] at hP hD
      have hP9 : va_P G vwCl (oX0 T q (sc S 1 (nI (gAf 10 cc dd ev).2))) H := hP
      have hD9 : va_D A (oX0 T q (sc S 1 (nI (gAf 10 cc dd ev).2))) := hD
      exact e_rwi hx hb hr hlocks hS (by first | rfl | simp [gAf, c_26]) hP9 hD9 dX0_after_216
    · skip
      refine lv_bipush (v := nI 13) hx hb dX0_after_204 (by decide) ?_
      refine lv_goto (tgt := 216) hx hb dX0_after_206 (by decide) ?_
      subst hQ
      have e_29 : S 0 1 = nI (gAf 10 cc dd ev).2 := (by first | exact hd | rfl)
      rw [e_29] at hP hD
      have hP9 : va_P G vwCl (oX0 T q (sc S 1 (nI (gAf 10 cc dd ev).2))) H := hP
      have hD9 : va_D A (oX0 T q (sc S 1 (nI (gAf 10 cc dd ev).2))) := hD
      exact e_rwi hx hb hr hlocks hS (by first | rfl | simp [gAf, c_27]) hP9 hD9 dX0_after_216
  · skip
    refine n_tab (a := 11) (off := 213) (tgt := 217) hx hb (by decide) dX0_after_4 (by decide) (by decide) rfl (by decide) ?_
    refine lv_iload_n hx hb dX0_after_217 rfl (lv_at hl 1 rfl) ?_
    refine lv_bipush (v := nI 48) hx hb dX0_after_218 (by decide) ?_
    refine lv_bipush (v := nI 53) hx hb dX0_after_220 (by decide) ?_
    refine k_roS (As := [.int (nI cc), .int (nI 48), .int (nI 53)]) (rest := []) (wc := []) (d := 0) (v := bI (pIn9 cc 48 53)) cx (c_X0_isIn l G T A cc 48 53 (by omega) (by omega) (by omega)) (va_cwS 3 hts gX0_after_X0_isIn rfl rfl rfl (by decide +kernel) ⟨Nat.le_of_ble_eq_true rfl, Nat.le_of_ble_eq_true rfl⟩) (hP.sub (ws' := []) [] rfl) hK (hE.kept hS.2.1) rfl hl.1 rfl (Nat.le_of_ble_eq_true rfl) dX0_after_222 ⟨Nat.le_of_ble_eq_true rfl, Nat.le_of_ble_eq_true rfl⟩ ?_
    refine b_if_eq (b := pIn9 cc 48 53) (tgt := 233) hx hb dX0_after_225 (by decide) (fun c_30 => ?_) (fun c_31 => ?_)
    · skip
      refine n_iconst hx hb 0 dX0_after_233 (by decide) ?_
      subst hQ
      have e_32 : S 0 1 = nI (gAf 11 cc dd ev).2 := (by first | exact hd | rfl)
      rw [e_32] at hP hD
      have hP9 : va_P G vwCl (oX0 T q (sc S 1 (nI (gAf 11 cc dd ev).2))) H := hP
      have hD9 : va_D A (oX0 T q (sc S 1 (nI (gAf 11 cc dd ev).2))) := hD
      exact e_rwi hx hb hr hlocks hS (by first | rfl | simp [gAf, c_30]) hP9 hD9 dX0_after_234
    · skip
      refine lv_bipush (v := nI 13) hx hb dX0_after_228 (by decide) ?_
      refine lv_goto (tgt := 234) hx hb dX0_after_230 (by decide) ?_
      subst hQ
      have e_33 : S 0 1 = nI (gAf 11 cc dd ev).2 := (by first | exact hd | rfl)
      rw [e_33] at hP hD
      have hP9 : va_P G vwCl (oX0 T q (sc S 1 (nI (gAf 11 cc dd ev).2))) H := hP
      have hD9 : va_D A (oX0 T q (sc S 1 (nI (gAf 11 cc dd ev).2))) := hD
      exact e_rwi hx hb hr hlocks hS (by first | rfl | simp [gAf, c_31]) hP9 hD9 dX0_after_234
  · skip
    refine n_tab (a := 12) (off := 231) (tgt := 235) hx hb (by decide) dX0_after_4 (by decide) (by decide) rfl (by decide) ?_
    refine lv_iload_n hx hb dX0_after_235 rfl (lv_at hl 1 rfl) ?_
    refine lv_bipush (v := nI 48) hx hb dX0_after_236 (by decide) ?_
    refine lv_bipush (v := nI 54) hx hb dX0_after_238 (by decide) ?_
    refine k_roS (As := [.int (nI cc), .int (nI 48), .int (nI 54)]) (rest := []) (wc := []) (d := 0) (v := bI (pIn9 cc 48 54)) cx (c_X0_isIn l G T A cc 48 54 (by omega) (by omega) (by omega)) (va_cwS 3 hts gX0_after_X0_isIn rfl rfl rfl (by decide +kernel) ⟨Nat.le_of_ble_eq_true rfl, Nat.le_of_ble_eq_true rfl⟩) (hP.sub (ws' := []) [] rfl) hK (hE.kept hS.2.1) rfl hl.1 rfl (Nat.le_of_ble_eq_true rfl) dX0_after_240 ⟨Nat.le_of_ble_eq_true rfl, Nat.le_of_ble_eq_true rfl⟩ ?_
    refine b_if_eq (b := pIn9 cc 48 54) (tgt := 251) hx hb dX0_after_243 (by decide) (fun c_34 => ?_) (fun c_35 => ?_)
    · skip
      refine n_iconst hx hb 0 dX0_after_251 (by decide) ?_
      subst hQ
      have e_36 : S 0 1 = nI (gAf 12 cc dd ev).2 := (by first | exact hd | rfl)
      rw [e_36] at hP hD
      have hP9 : va_P G vwCl (oX0 T q (sc S 1 (nI (gAf 12 cc dd ev).2))) H := hP
      have hD9 : va_D A (oX0 T q (sc S 1 (nI (gAf 12 cc dd ev).2))) := hD
      exact e_rwi hx hb hr hlocks hS (by first | rfl | simp [gAf, c_34]) hP9 hD9 dX0_after_252
    · skip
      refine lv_bipush (v := nI 13) hx hb dX0_after_246 (by decide) ?_
      refine lv_goto (tgt := 252) hx hb dX0_after_248 (by decide) ?_
      subst hQ
      have e_37 : S 0 1 = nI (gAf 12 cc dd ev).2 := (by first | exact hd | rfl)
      rw [e_37] at hP hD
      have hP9 : va_P G vwCl (oX0 T q (sc S 1 (nI (gAf 12 cc dd ev).2))) H := hP
      have hD9 : va_D A (oX0 T q (sc S 1 (nI (gAf 12 cc dd ev).2))) := hD
      exact e_rwi hx hb hr hlocks hS (by first | rfl | simp [gAf, c_35]) hP9 hD9 dX0_after_252
  · skip
    refine n_tab (a := 13) (off := 249) (tgt := 253) hx hb (by decide) dX0_after_4 (by decide) (by decide) rfl (by decide) ?_
    refine lv_iload_n hx hb dX0_after_253 rfl (lv_at hl 1 rfl) ?_
    refine lv_bipush (v := nI 44) hx hb dX0_after_254 (by decide) ?_
    refine n_iconst hx hb 1 dX0_after_256 (by decide) ?_
    refine k_roS (As := [.int (nI cc), .int (nI 44), .int (nI 1)]) (rest := []) (wc := []) (d := 0) (v := nI (gWh cc 44 1)) cx (c_X0_whenIs l G T A cc 44 1 (by omega) (by omega) (by omega)) (va_cwS 3 hts gX0_after_X0_whenIs rfl rfl rfl (by decide +kernel) ⟨Nat.le_of_ble_eq_true rfl, Nat.le_of_ble_eq_true rfl⟩) (hP.sub (ws' := []) [] rfl) hK (hE.kept hS.2.1) rfl hl.1 rfl (Nat.le_of_ble_eq_true rfl) dX0_after_257 ⟨Nat.le_of_ble_eq_true rfl, Nat.le_of_ble_eq_true rfl⟩ ?_
    subst hQ
    have e_38 : S 0 1 = nI (gAf 13 cc dd ev).2 := (by first | exact hd | rfl)
    rw [e_38] at hP hD
    have hP9 : va_P G vwCl (oX0 T q (sc S 1 (nI (gAf 13 cc dd ev).2))) H := hP
    have hD9 : va_D A (oX0 T q (sc S 1 (nI (gAf 13 cc dd ev).2))) := hD
    exact e_rwi hx hb hr hlocks hS (by first | rfl | simp [gAf]) hP9 hD9 dX0_after_260
set_option maxHeartbeats 4000000 in
set_option maxRecDepth 100000 in
theorem c_X0_readFrom (l : Launch) (G : va_G) (T : Nat → ClassId) (sz : Nat) (q : Nat → Nat) (qt : Nat → Nat) (S : Nat → Nat → Int32) (X : Nat → Nat → Int32) (st : Nat) (n : Nat) (cd : Nat → Nat) (ev : Bool) (hst : st ≤ 13) (hev : S 0 2 = bI ev) (hlen : X 0 1 = nI n) (hn60 : n ≤ 60) (hcd : ∀ i : Nat, i < n → X 1 i = nI (cd i)) (hc127 : ∀ i : Nat, i < n → cd i < 127) : RWi l yX0_readFrom wsX0_readFrom 7 0 0 G T sz (oX0 T q S ++ oX5 T qt X) [.ref (q 0), .int (nI st), .ref (qt 0)] (nI (gEr cd n st ev)) (oX0 T q (sc (sc S 0 (nI (gS cd n st ev (gEn cd n st ev)).1)) 1 (nI (gS cd n st ev (gEn cd n st ev)).2)) ++ oX5 T qt X) := by
  refine Met.ofW (cc := cX0_readFrom) (maxL := 4) (ret := (some .int)) (by decide) rfl ?_
  intro p e s m args below meth c s₁ B hml hv
  obtain ⟨ha, hsz, hP, hK, hD0, hE0⟩ := hv
  have hx := B.exec
  have hb := B.bytes
  have hr := B.returns
  have hlocks := B.notSynchronized
  have hts := atoms_spec (ws := wsX0_readFrom) B.pre
  have hown : s.vm.findClass RX0 = some m.cls := findClass_of_methodNamed B.named
  have cx : CallFix p m c cX0_readFrom 4 s args wsX0_readFrom RX0 := ⟨hx, hb, hml, hown, hts⟩
  subst hsz
  have hD := hD0.self (sz := s.heap.size)
  generalize hAe : va_A (oX0 T q S ++ oX5 T qt X) s.heap.size = A at hD hE0 ⊢
  have hE : gE A s s.heap := hE0
  have hA : ∀ q : Nat, s.heap.size ≤ q → A q := fun q h => by rw [← hAe]; exact Or.inr h
  have hS : va_S A s.heap s.heap [] := va_S.rf
  refine w_entry ha (Nat.le_of_ble_eq_true rfl) (fun ls hl => ?_)
  refine w_q (fun Q0 hQ => ?_)
  have lk19 := hts (.fieldLink RX0 19 "WhistleTunes$Grammar" "expected" "I") (by decide +kernel)
  have hinX0 : ∀ w ∈ wsX00, w ∈ wsX0_readFrom := by decide +kernel
  have lk23 := hts (.fieldLink RX0 23 "WhistleTunes$Grammar" "depth" "I") (by decide +kernel)
  have lk26 := hts (.fieldLink RX0 26 "WhistleTunes$Text" "length" "I") (by decide +kernel)
  have hinX5 : ∀ w ∈ wsX50, w ∈ wsX0_readFrom := by decide +kernel
  have hl : lv_has ls 4 [(0, .ref (q 0)), (1, .int (nI st)), (2, .ref (qt 0))] := hl
  have hP : va_P G vwCl [(q 0, .inr (0, [.int (S 0 0), .int (S 0 1), .int (S 0 2)])), (qt 0, .inr (5, [.ref (qt 1), .int (X 0 1)])), (qt 1, .inl (T 1, 60, .inl (X 1)))] s.heap := hP
  have hD : va_D A [(q 0, .inr (0, [.int (S 0 0), .int (S 0 1), .int (S 0 2)])), (qt 0, .inr (5, [.ref (qt 1), .int (X 0 1)])), (qt 1, .inl (T 1, 60, .inl (X 1)))] := hD
  skip
  refine w_h (fun H locs hHe hLe => ?_)
  have hP : va_P G vwCl [(q 0, .inr (0, [.int (S 0 0), .int (S 0 1), .int (S 0 2)])), (qt 0, .inr (5, [.ref (qt 1), .int (X 0 1)])), (qt 1, .inl (T 1, 60, .inl (X 1)))] H := by rw [hHe]; exact hP
  have hS : va_S A s.heap H locs := by rw [hHe, hLe]; exact hS
  refine lv_aload_n hx hb dX0_readFrom_0 rfl (lv_at hl 0 rfl) ?_
  refine lv_iload_n hx hb dX0_readFrom_1 rfl (lv_at hl 1 rfl) ?_
  refine va_put (D := G) (ci := 0) (v := .int (nI st)) (ty := .int) (C := RX0) (T := TX0) (N := 3) hx hb hts hinX0 tyX0 tyX0_ok nmX0 hown hK hP hD hS 0 rfl rfl 0 (by decide) lk19 (fun _ h9 => h9) rfl (by decide +kernel) rfl rfl (Nat.le_of_ble_eq_true rfl) dX0_readFrom_2 (fun H locs hP hD hS => ?_)
  have hP : va_P G vwCl [(q 0, .inr (0, [.int (nI st), .int (S 0 1), .int (S 0 2)])), (qt 0, .inr (5, [.ref (qt 1), .int (X 0 1)])), (qt 1, .inl (T 1, 60, .inl (X 1)))] H := hP
  have hD : va_D A [(q 0, .inr (0, [.int (nI st), .int (S 0 1), .int (S 0 2)])), (qt 0, .inr (5, [.ref (qt 1), .int (X 0 1)])), (qt 1, .inl (T 1, 60, .inl (X 1)))] := hD
  refine lv_aload_n hx hb dX0_readFrom_5 rfl (lv_at hl 0 rfl) ?_
  refine n_iconst hx hb 0 dX0_readFrom_6 (by decide) ?_
  refine va_put (D := G) (ci := 0) (v := .int (nI 0)) (ty := .int) (C := RX0) (T := TX0) (N := 3) hx hb hts hinX0 tyX0 tyX0_ok nmX0 hown hK hP hD hS 0 rfl rfl 1 (by decide) lk23 (fun _ h9 => h9) rfl (by decide +kernel) rfl rfl (Nat.le_of_ble_eq_true rfl) dX0_readFrom_7 (fun H locs hP hD hS => ?_)
  have hP : va_P G vwCl [(q 0, .inr (0, [.int (nI st), .int (nI 0), .int (S 0 2)])), (qt 0, .inr (5, [.ref (qt 1), .int (X 0 1)])), (qt 1, .inl (T 1, 60, .inl (X 1)))] H := hP
  have hD : va_D A [(q 0, .inr (0, [.int (nI st), .int (nI 0), .int (S 0 2)])), (qt 0, .inr (5, [.ref (qt 1), .int (X 0 1)])), (qt 1, .inl (T 1, 60, .inl (X 1)))] := hD
  refine n_iconst hx hb 0 dX0_readFrom_10 (by decide) ?_
  refine lv_istore_n (lv' := [(3, .int (nI 0)), (0, .ref (q 0)), (1, .int (nI st)), (2, .ref (qt 0))]) hx hb dX0_readFrom_11 rfl hl (by decide) rfl (fun ls hl => ?_)
  have L12 : ∀ (n9 k : Nat) (hk1 : k ≤ n) (hk2 : n - k < n9) (hno : gEr cd n st ev = nFind (fun k => decide ((gS cd n st ev (k + 1)).1 = 0)) (n - k) k) (x3 : Int32) (y_1 : Int32) (y_2 : Int32) (hx3 : x3 = nI k) (hy_1 : y_1 = nI (gS cd n st ev k).1) (hy_2 : y_2 = nI (gS cd n st ev k).2) (H : Heap) (locs : List Loc) (hP : va_P G vwCl [(q 0, .inr (0, [.int y_1, .int y_2, .int (S 0 2)])), (qt 0, .inr (5, [.ref (qt 1), .int (X 0 1)])), (qt 1, .inl (T 1, 60, .inl (X 1)))] H) (hD : va_D A [(q 0, .inr (0, [.int y_1, .int y_2, .int (S 0 2)])), (qt 0, .inr (5, [.ref (qt 1), .int (X 0 1)])), (qt 1, .inl (T 1, 60, .inl (X 1)))]) (hS : va_S A s.heap H locs) (ls : Array Slot) (hl : lv_has ls 4 [(3, .int x3), (0, .ref (q 0)), (1, .int (nI st)), (2, .ref (qt 0))]), W p l e (headSpec wsX0_readFrom (rmD 7 0 0)).room s m args below meth c H locs 0 0 Q0 (F0 m 12 ls []) := by
    intro n9
    induction n9 with
    | zero => intros; omega
    | succ n9 ih12 =>
      intro k hk1 hk2 hno x3 y_1 y_2 hx3 hy_1 hy_2 H locs hP hD hS ls hl
      subst hx3 hy_1 hy_2
      have hgs := gS_le cd n hst ev k
      have hgs2 := gS_le cd n hst ev (k + 1)
      have hpa := pAt_lt (i := k) hc127
      have hga : (gAf (gS cd n st ev k).1 (pAt cd n k) (gS cd n st ev k).2 ev).1 ≤ 13 := hgs2.1
      refine lv_iload_n hx hb dX0_readFrom_12 rfl (lv_at hl 0 rfl) ?_
      refine lv_aload_n hx hb dX0_readFrom_13 rfl (lv_at hl 3 rfl) ?_
      refine va_get (D := G) (ci := 5) (v := .int (X 0 1)) (C := RX5) (T := TX5) (N := 2) hx hb hts hinX5 hown hK hP 1 rfl rfl 1 (by decide) lk26 (fun _ h9 => h9) rfl dX0_readFrom_14 ?_
      refine n_top (y := nI n) hlen ?_
      refine n_icmp_ge (a := k) (b := n) (tgt := 48) hx hb (by omega) (by omega) dX0_readFrom_17 (by decide) (fun c_3 => ?_) (fun c_4 => ?_)
      · skip
        refine lv_aload_n hx hb dX0_readFrom_48 rfl (lv_at hl 3 rfl) ?_
        refine va_get (D := G) (ci := 5) (v := .int (X 0 1)) (C := RX5) (T := TX5) (N := 2) hx hb hts hinX5 hown hK hP 1 rfl rfl 1 (by decide) lk26 (fun _ h9 => h9) rfl dX0_readFrom_49 ?_
        refine n_top (y := nI n) hlen ?_
        subst hQ
        have e_5 : nI (gS cd n st ev k).1 = nI (gS cd n st ev (gEn cd n st ev)).1 := (by first | (have he : gEr cd n st ev = k := (by rw [hno, nFind_y (by omega) (decide_eq_true c_3)]); unfold gEn; rw [he, if_pos (by omega)] <;> rfl) | (have hkn : n = k := (by omega); have he : gEr cd n st ev = n := (by rw [hno, hkn]; simp [nFind]); unfold gEn; rw [he, if_neg (by omega), hkn] <;> rfl))
        have e_6 : nI (gS cd n st ev k).2 = nI (gS cd n st ev (gEn cd n st ev)).2 := (by first | (have he : gEr cd n st ev = k := (by rw [hno, nFind_y (by omega) (decide_eq_true c_3)]); unfold gEn; rw [he, if_pos (by omega)] <;> rfl) | (have hkn : n = k := (by omega); have he : gEr cd n st ev = n := (by rw [hno, hkn]; simp [nFind]); unfold gEn; rw [he, if_neg (by omega), hkn] <;> rfl))
        rw [e_5, e_6] at hP hD
        have hP9 : va_P G vwCl (oX0 T q (sc (sc S 0 (nI (gS cd n st ev (gEn cd n st ev)).1)) 1 (nI (gS cd n st ev (gEn cd n st ev)).2)) ++ oX5 T qt X) H := hP
        have hD9 : va_D A (oX0 T q (sc (sc S 0 (nI (gS cd n st ev (gEn cd n st ev)).1)) 1 (nI (gS cd n st ev (gEn cd n st ev)).2)) ++ oX5 T qt X) := hD
        exact e_rwi hx hb hr hlocks hS (by have hkn : n = k := (by omega); rw [hno, hkn]; simp [nFind]) hP9 hD9 dX0_readFrom_52
      · skip
        refine lv_aload_n hx hb dX0_readFrom_20 rfl (lv_at hl 1 rfl) ?_
        refine lv_aload_n hx hb dX0_readFrom_21 rfl (lv_at hl 1 rfl) ?_
        refine lv_aload_n hx hb dX0_readFrom_22 rfl (lv_at hl 3 rfl) ?_
        refine lv_iload_n hx hb dX0_readFrom_23 rfl (lv_at hl 0 rfl) ?_
        refine k_roV (As := [.int (nI k)]) (rest := [.ref (q 0), .ref (q 0)]) (wc := oX5 T qt X) (d := 0) (v := nI (pAt cd n k)) cx (c_X5_at l G T A qt X k n cd (by first | assumption | rfl | omega) (by omega) (by first | assumption | rfl | omega) (by omega) (by omega)) (cwV 1 hts gX0_readFrom_X5_at rfl rfl rfl (by decide +kernel) ⟨Nat.le_of_ble_eq_true rfl, Nat.le_of_ble_eq_true rfl⟩) (hP.sub (ws' := oX5 T qt X) [1, 2] rfl) hK (hE.kept hS.2.1) (va_recv hK hP (ci := 5) (q0 := 1) rfl rfl) rfl hl.1 rfl (Nat.le_of_ble_eq_true rfl) dX0_readFrom_24 ⟨Nat.le_of_ble_eq_true rfl, Nat.le_of_ble_eq_true rfl⟩ ?_
        refine k_rwV (As := [.int (nI (pAt cd n k))]) (rest := [.ref (q 0)]) (wc := oX0 T q (sc (sc S 0 (nI (gS cd n st ev k).1)) 1 (nI (gS cd n st ev k).2))) (wr := oX5 T qt X) (w1 := oX0 T q (sc (sc (sc S 0 (nI (gS cd n st ev k).1)) 1 (nI (gS cd n st ev k).2)) 1 (nI (gAf (gS cd n st ev k).1 (pAt cd n k) (gS cd n st ev k).2 ev).2))) (d := 6) (mc := 0) (ms := 0) (v := nI (gAf (gS cd n st ev k).1 (pAt cd n k) (gS cd n st ev k).2 ev).1) (isC := [0]) (isR := [1, 2]) cx (c_X0_after l G T H.size q (sc (sc S 0 (nI (gS cd n st ev k).1)) 1 (nI (gS cd n st ev k).2)) (pAt cd n k) (gS cd n st ev k).2 ev (gS cd n st ev k).1 (by omega) (by first | assumption | rfl | omega) (by omega) (by first | assumption | rfl | omega) (by first | assumption | rfl | omega) (by omega)) (cwV 1 hts gX0_readFrom_X0_after rfl rfl rfl (by decide +kernel) ⟨Nat.le_of_ble_eq_true rfl, Nat.le_of_ble_eq_true rfl⟩) ⟨hP, hD, hS, hA, hE, hK, rfl, rfl, rfl, rfl, by decide⟩ (va_recv hK hP (ci := 0) (q0 := 0) rfl rfl) rfl hl.1 rfl (Nat.le_of_ble_eq_true rfl) dX0_readFrom_27 ⟨Nat.le_of_ble_eq_true rfl, Nat.le_of_ble_eq_true rfl⟩ (fun H locs hP hD hS hz => ?_)
        have hP : va_P G vwCl [(q 0, .inr (0, [.int (nI (gS cd n st ev k).1), .int (nI (gAf (gS cd n st ev k).1 (pAt cd n k) (gS cd n st ev k).2 ev).2), .int (S 0 2)])), (qt 0, .inr (5, [.ref (qt 1), .int (X 0 1)])), (qt 1, .inl (T 1, 60, .inl (X 1)))] H := kN.sub (is := [2, 0, 1]) hP rfl
        have hD : va_D A [(q 0, .inr (0, [.int (nI (gS cd n st ev k).1), .int (nI (gAf (gS cd n st ev k).1 (pAt cd n k) (gS cd n st ev k).2 ev).2), .int (S 0 2)])), (qt 0, .inr (5, [.ref (qt 1), .int (X 0 1)])), (qt 1, .inl (T 1, 60, .inl (X 1)))] := hD.sub [2, 0, 1] rfl rfl
        refine va_put (D := G) (ci := 0) (v := .int (nI (gAf (gS cd n st ev k).1 (pAt cd n k) (gS cd n st ev k).2 ev).1)) (ty := .int) (C := RX0) (T := TX0) (N := 3) hx hb hts hinX0 tyX0 tyX0_ok nmX0 hown hK hP hD hS 0 rfl rfl 0 (by decide) lk19 (fun _ h9 => h9) rfl (by decide +kernel) rfl rfl (Nat.le_of_ble_eq_true rfl) dX0_readFrom_30 (fun H locs hP hD hS => ?_)
        have hP : va_P G vwCl [(q 0, .inr (0, [.int (nI (gAf (gS cd n st ev k).1 (pAt cd n k) (gS cd n st ev k).2 ev).1), .int (nI (gAf (gS cd n st ev k).1 (pAt cd n k) (gS cd n st ev k).2 ev).2), .int (S 0 2)])), (qt 0, .inr (5, [.ref (qt 1), .int (X 0 1)])), (qt 1, .inl (T 1, 60, .inl (X 1)))] H := hP
        have hD : va_D A [(q 0, .inr (0, [.int (nI (gAf (gS cd n st ev k).1 (pAt cd n k) (gS cd n st ev k).2 ev).1), .int (nI (gAf (gS cd n st ev k).1 (pAt cd n k) (gS cd n st ev k).2 ev).2), .int (S 0 2)])), (qt 0, .inr (5, [.ref (qt 1), .int (X 0 1)])), (qt 1, .inl (T 1, 60, .inl (X 1)))] := hD
        refine lv_aload_n hx hb dX0_readFrom_33 rfl (lv_at hl 1 rfl) ?_
        refine va_get (D := G) (ci := 0) (v := .int (nI (gAf (gS cd n st ev k).1 (pAt cd n k) (gS cd n st ev k).2 ev).1)) (C := RX0) (T := TX0) (N := 3) hx hb hts hinX0 hown hK hP 0 rfl rfl 0 (by decide) lk19 (fun _ h9 => h9) rfl dX0_readFrom_34 ?_
        refine n_if_ne (a := (gAf (gS cd n st ev k).1 (pAt cd n k) (gS cd n st ev k).2 ev).1) (tgt := 42) hx hb (by omega) dX0_readFrom_37 (by decide) (fun c_7 => ?_) (fun c_8 => ?_)
        · skip
          refine lv_iinc (v := nI (k + 1)) (lv' := [(3, .int (nI (k + 1))), (0, .ref (q 0)), (1, .int (nI st)), (2, .ref (qt 0))]) hx hb dX0_readFrom_42 hl (k := 0) rfl (n_inc k 1 rfl) (by decide) rfl (fun ls hl => ?_)
          refine lv_goto (tgt := 12) hx hb dX0_readFrom_45 (by decide) ?_
          have e_9 : (nI (gAf (gS cd n st ev k).1 (pAt cd n k) (gS cd n st ev k).2 ev).1) = nI (gS cd n st ev (k + 1)).1 := rfl
          have e_10 : (nI (gAf (gS cd n st ev k).1 (pAt cd n k) (gS cd n st ev k).2 ev).2) = nI (gS cd n st ev (k + 1)).2 := rfl
          exact ih12 (k + 1) (by omega) (by omega) (by rw [hno, nFind_n (by omega) (decide_eq_false c_7)]) _ _ _ rfl e_9 e_10 _ _ hP hD hS _ (lv_sub hl [0, 1, 2, 3] rfl)
        · skip
          refine lv_iload_n hx hb dX0_readFrom_40 rfl (lv_at hl 0 rfl) ?_
          subst hQ
          have e_11 : nI (gAf (gS cd n st ev k).1 (pAt cd n k) (gS cd n st ev k).2 ev).1 = nI (gS cd n st ev (gEn cd n st ev)).1 := (by first | (have he : gEr cd n st ev = k := (by rw [hno, nFind_y (by omega) (decide_eq_true c_8)]); unfold gEn; rw [he, if_pos (by omega)] <;> rfl) | (have hkn : n = k := (by omega); have he : gEr cd n st ev = n := (by rw [hno, hkn]; simp [nFind]); unfold gEn; rw [he, if_neg (by omega), hkn] <;> rfl))
          have e_12 : nI (gAf (gS cd n st ev k).1 (pAt cd n k) (gS cd n st ev k).2 ev).2 = nI (gS cd n st ev (gEn cd n st ev)).2 := (by first | (have he : gEr cd n st ev = k := (by rw [hno, nFind_y (by omega) (decide_eq_true c_8)]); unfold gEn; rw [he, if_pos (by omega)] <;> rfl) | (have hkn : n = k := (by omega); have he : gEr cd n st ev = n := (by rw [hno, hkn]; simp [nFind]); unfold gEn; rw [he, if_neg (by omega), hkn] <;> rfl))
          rw [e_11, e_12] at hP hD
          have hP9 : va_P G vwCl (oX0 T q (sc (sc S 0 (nI (gS cd n st ev (gEn cd n st ev)).1)) 1 (nI (gS cd n st ev (gEn cd n st ev)).2)) ++ oX5 T qt X) H := hP
          have hD9 : va_D A (oX0 T q (sc (sc S 0 (nI (gS cd n st ev (gEn cd n st ev)).1)) 1 (nI (gS cd n st ev (gEn cd n st ev)).2)) ++ oX5 T qt X) := hD
          exact e_rwi hx hb hr hlocks hS (by rw [hno, nFind_y (by omega) (decide_eq_true c_8)]) hP9 hD9 dX0_readFrom_41
  exact L12 (n + 1) 0 (by omega) (by omega) rfl _ _ _ rfl rfl rfl _ _ hP hD hS _ (lv_sub hl [0, 1, 2, 3] rfl)
set_option maxHeartbeats 4000000 in
set_option maxRecDepth 100000 in
theorem c_X0_readTune (l : Launch) (G : va_G) (T : Nat → ClassId) (sz : Nat) (q : Nat → Nat) (qt : Nat → Nat) (S : Nat → Nat → Int32) (X : Nat → Nat → Int32) (n : Nat) (cd : Nat → Nat) (hlen : X 0 1 = nI n) (hn60 : n ≤ 60) (hcd : ∀ i : Nat, i < n → X 1 i = nI (cd i)) (hc127 : ∀ i : Nat, i < n → cd i < 127) : RWi l yX0_readTune wsX0_readTune 8 0 0 G T sz (oX0 T q S ++ oX5 T qt X) [.ref (q 0), .ref (qt 0)] (nI (gEr cd n 4 false)) (oX0 T q (sc (sc (sc S 0 (nI (gS cd n 4 false (gEn cd n 4 false)).1)) 1 (nI (gS cd n 4 false (gEn cd n 4 false)).2)) 2 (bI false)) ++ oX5 T qt X) := by
  refine Met.ofW (cc := cX0_readTune) (maxL := 2) (ret := (some .int)) (by decide) rfl ?_
  intro p e s m args below meth c s₁ B hml hv
  obtain ⟨ha, hsz, hP, hK, hD0, hE0⟩ := hv
  have hx := B.exec
  have hb := B.bytes
  have hr := B.returns
  have hlocks := B.notSynchronized
  have hts := atoms_spec (ws := wsX0_readTune) B.pre
  have hown : s.vm.findClass RX0 = some m.cls := findClass_of_methodNamed B.named
  have cx : CallFix p m c cX0_readTune 2 s args wsX0_readTune RX0 := ⟨hx, hb, hml, hown, hts⟩
  subst hsz
  have hD := hD0.self (sz := s.heap.size)
  generalize hAe : va_A (oX0 T q S ++ oX5 T qt X) s.heap.size = A at hD hE0 ⊢
  have hE : gE A s s.heap := hE0
  have hA : ∀ q : Nat, s.heap.size ≤ q → A q := fun q h => by rw [← hAe]; exact Or.inr h
  have hS : va_S A s.heap s.heap [] := va_S.rf
  refine w_entry ha (Nat.le_of_ble_eq_true rfl) (fun ls hl => ?_)
  refine w_q (fun Q0 hQ => ?_)
  have lk9 := hts (.fieldLink RX0 9 "WhistleTunes$Grammar" "isEvening" "Z") (by decide +kernel)
  have hinX0 : ∀ w ∈ wsX00, w ∈ wsX0_readTune := by decide +kernel
  have hl : lv_has ls 2 [(0, .ref (q 0)), (1, .ref (qt 0))] := hl
  have hP : va_P G vwCl [(q 0, .inr (0, [.int (S 0 0), .int (S 0 1), .int (S 0 2)])), (qt 0, .inr (5, [.ref (qt 1), .int (X 0 1)])), (qt 1, .inl (T 1, 60, .inl (X 1)))] s.heap := hP
  have hD : va_D A [(q 0, .inr (0, [.int (S 0 0), .int (S 0 1), .int (S 0 2)])), (qt 0, .inr (5, [.ref (qt 1), .int (X 0 1)])), (qt 1, .inl (T 1, 60, .inl (X 1)))] := hD
  skip
  refine w_h (fun H locs hHe hLe => ?_)
  have hP : va_P G vwCl [(q 0, .inr (0, [.int (S 0 0), .int (S 0 1), .int (S 0 2)])), (qt 0, .inr (5, [.ref (qt 1), .int (X 0 1)])), (qt 1, .inl (T 1, 60, .inl (X 1)))] H := by rw [hHe]; exact hP
  have hS : va_S A s.heap H locs := by rw [hHe, hLe]; exact hS
  refine lv_aload_n hx hb dX0_readTune_0 rfl (lv_at hl 0 rfl) ?_
  refine n_iconst hx hb 0 dX0_readTune_1 (by decide) ?_
  refine va_put (D := G) (ci := 0) (v := .int (nI 0)) (ty := .boolean) (C := RX0) (T := TX0) (N := 3) hx hb hts hinX0 tyX0 tyX0_ok nmX0 hown hK hP hD hS 0 rfl rfl 2 (by decide) lk9 (fun _ h9 => h9) rfl (by decide +kernel) (by first | rfl | exact nar_b _) (by first | rfl | exact fit_b _) (Nat.le_of_ble_eq_true rfl) dX0_readTune_2 (fun H locs hP hD hS => ?_)
  have hP : va_P G vwCl [(q 0, .inr (0, [.int (S 0 0), .int (S 0 1), .int (nI 0)])), (qt 0, .inr (5, [.ref (qt 1), .int (X 0 1)])), (qt 1, .inl (T 1, 60, .inl (X 1)))] H := hP
  have hD : va_D A [(q 0, .inr (0, [.int (S 0 0), .int (S 0 1), .int (nI 0)])), (qt 0, .inr (5, [.ref (qt 1), .int (X 0 1)])), (qt 1, .inl (T 1, 60, .inl (X 1)))] := hD
  refine lv_aload_n hx hb dX0_readTune_5 rfl (lv_at hl 0 rfl) ?_
  refine n_iconst hx hb 4 dX0_readTune_6 (by decide) ?_
  refine lv_aload_n hx hb dX0_readTune_7 rfl (lv_at hl 1 rfl) ?_
  refine k_rwV (As := [.int (nI 4), .ref (qt 0)]) (rest := []) (wc := oX0 T q (sc S 2 (nI 0)) ++ oX5 T qt X) (wr := []) (w1 := oX0 T q (sc (sc (sc S 2 (nI 0)) 0 (nI (gS cd n 4 false (gEn cd n 4 false)).1)) 1 (nI (gS cd n 4 false (gEn cd n 4 false)).2)) ++ oX5 T qt X) (d := 7) (mc := 0) (ms := 0) (v := nI (gEr cd n 4 false)) (isC := [0, 1, 2]) (isR := []) cx (c_X0_readFrom l G T H.size q qt (sc S 2 (nI 0)) X 4 n cd false (by omega) (by first | assumption | rfl | omega) (by first | assumption | rfl | omega) (by omega) (by first | assumption | rfl | omega) (by omega)) (cwV 2 hts gX0_readTune_X0_readFrom rfl rfl rfl (by decide +kernel) ⟨Nat.le_of_ble_eq_true rfl, Nat.le_of_ble_eq_true rfl⟩) ⟨hP, hD, hS, hA, hE, hK, rfl, rfl, rfl, rfl, by decide⟩ (va_recv hK hP (ci := 0) (q0 := 0) rfl rfl) rfl hl.1 rfl (Nat.le_of_ble_eq_true rfl) dX0_readTune_8 ⟨Nat.le_of_ble_eq_true rfl, Nat.le_of_ble_eq_true rfl⟩ (fun H locs hP hD hS hz => ?_)
  have hP : va_P G vwCl [(q 0, .inr (0, [.int (nI (gS cd n 4 false (gEn cd n 4 false)).1), .int (nI (gS cd n 4 false (gEn cd n 4 false)).2), .int (nI 0)])), (qt 0, .inr (5, [.ref (qt 1), .int (X 0 1)])), (qt 1, .inl (T 1, 60, .inl (X 1)))] H := hP
  have hD : va_D A [(q 0, .inr (0, [.int (nI (gS cd n 4 false (gEn cd n 4 false)).1), .int (nI (gS cd n 4 false (gEn cd n 4 false)).2), .int (nI 0)])), (qt 0, .inr (5, [.ref (qt 1), .int (X 0 1)])), (qt 1, .inl (T 1, 60, .inl (X 1)))] := hD
  subst hQ
  have e_1 : nI 0 = bI false := (by first | rfl | simp [bI])
  rw [e_1] at hP hD
  have hP9 : va_P G vwCl (oX0 T q (sc (sc (sc S 0 (nI (gS cd n 4 false (gEn cd n 4 false)).1)) 1 (nI (gS cd n 4 false (gEn cd n 4 false)).2)) 2 (bI false)) ++ oX5 T qt X) H := hP
  have hD9 : va_D A (oX0 T q (sc (sc (sc S 0 (nI (gS cd n 4 false (gEn cd n 4 false)).1)) 1 (nI (gS cd n 4 false (gEn cd n 4 false)).2)) 2 (bI false)) ++ oX5 T qt X) := hD
  exact e_rwi hx hb hr hlocks hS (by first | rfl | simp [bI]) hP9 hD9 dX0_readTune_11

set_option maxHeartbeats 4000000 in
set_option maxRecDepth 100000 in
theorem c_X0_mayEnd (l : Launch) (G : va_G) (T : Nat → ClassId) (A : Nat → Prop) (q : Nat → Nat) (S : Nat → Nat → Int32) (ex : Nat) (dd : Nat) (hd : S 0 1 = nI dd) (hd3 : dd ≤ 3) (hex : S 0 0 = nI ex) (hex13 : ex ≤ 13) : RO l yX0_mayEnd wsX0_mayEnd 0 G T A (oX0 T q S) [.ref (q 0)] (bI (gMay ex dd)) := by
  refine Met.ofW (cc := cX0_mayEnd) (maxL := 1) (ret := (some .boolean)) (by decide) rfl ?_
  intro p e s m args below meth c s₁ B hml hv
  obtain ⟨ha, hP, hK, hE⟩ := hv
  have hx := B.exec
  have hb := B.bytes
  have hr := B.returns
  have hlocks := B.notSynchronized
  have hts := atoms_spec (ws := wsX0_mayEnd) B.pre
  have hown : s.vm.findClass RX0 = some m.cls := findClass_of_methodNamed B.named
  have cx : CallFix p m c cX0_mayEnd 1 s args wsX0_mayEnd RX0 := ⟨hx, hb, hml, hown, hts⟩
  refine w_entry ha (Nat.le_of_ble_eq_true rfl) (fun ls hl => ?_)
  refine w_q (fun Q0 hQ => ?_)
  have lk19 := hts (.fieldLink RX0 19 "WhistleTunes$Grammar" "expected" "I") (by decide +kernel)
  have hinX0 : ∀ w ∈ wsX00, w ∈ wsX0_mayEnd := by decide +kernel
  have lk23 := hts (.fieldLink RX0 23 "WhistleTunes$Grammar" "depth" "I") (by decide +kernel)
  have hl : lv_has ls 1 [(0, .ref (q 0))] := hl
  have hP : va_P G vwCl [(q 0, .inr (0, [.int (S 0 0), .int (S 0 1), .int (S 0 2)]))] s.heap := hP
  refine lv_aload_n hx hb dX0_mayEnd_0 rfl (lv_at hl 0 rfl) ?_
  refine va_get (D := G) (ci := 0) (v := .int (S 0 0)) (C := RX0) (T := TX0) (N := 3) hx hb hts hinX0 hown hK hP 0 rfl rfl 0 (by decide) lk19 (fun _ h9 => h9) rfl dX0_mayEnd_1 ?_
  refine n_top (y := nI ex) hex ?_
  refine lv_bipush (v := nI 13) hx hb dX0_mayEnd_4 (by decide) ?_
  refine n_icmp_eq (a := ex) (b := 13) (tgt := 33) hx hb (by omega) (by decide) dX0_mayEnd_6 (by decide) (fun c_1 => ?_) (fun c_2 => ?_)
  · skip
    refine n_iconst hx hb 1 dX0_mayEnd_33 (by decide) ?_
    refine lv_goto (tgt := 38) hx hb dX0_mayEnd_34 (by decide) ?_
    subst hQ
    exact e_roz hx hb hr hlocks (by first | rfl | exact nar_b _) (by unfold gMay; first | (rw [decide_eq_true (by omega)]; rfl) | (rw [decide_eq_false (by omega)]; rfl)) dX0_mayEnd_38
  · skip
    refine lv_aload_n hx hb dX0_mayEnd_9 rfl (lv_at hl 0 rfl) ?_
    refine va_get (D := G) (ci := 0) (v := .int (S 0 0)) (C := RX0) (T := TX0) (N := 3) hx hb hts hinX0 hown hK hP 0 rfl rfl 0 (by decide) lk19 (fun _ h9 => h9) rfl dX0_mayEnd_10 ?_
    refine n_top (y := nI ex) hex ?_
    refine lv_bipush (v := nI 10) hx hb dX0_mayEnd_13 (by decide) ?_
    refine n_icmp_eq (a := ex) (b := 10) (tgt := 33) hx hb (by omega) (by decide) dX0_mayEnd_15 (by decide) (fun c_3 => ?_) (fun c_4 => ?_)
    · skip
      refine n_iconst hx hb 1 dX0_mayEnd_33 (by decide) ?_
      refine lv_goto (tgt := 38) hx hb dX0_mayEnd_34 (by decide) ?_
      subst hQ
      exact e_roz hx hb hr hlocks (by first | rfl | exact nar_b _) (by unfold gMay; first | (rw [decide_eq_true (by omega)]; rfl) | (rw [decide_eq_false (by omega)]; rfl)) dX0_mayEnd_38
    · skip
      refine lv_aload_n hx hb dX0_mayEnd_18 rfl (lv_at hl 0 rfl) ?_
      refine va_get (D := G) (ci := 0) (v := .int (S 0 0)) (C := RX0) (T := TX0) (N := 3) hx hb hts hinX0 hown hK hP 0 rfl rfl 0 (by decide) lk19 (fun _ h9 => h9) rfl dX0_mayEnd_19 ?_
      refine n_top (y := nI ex) hex ?_
      refine n_iconst hx hb 5 dX0_mayEnd_22 (by decide) ?_
      refine n_icmp_ne (a := ex) (b := 5) (tgt := 37) hx hb (by omega) (by decide) dX0_mayEnd_23 (by decide) (fun c_5 => ?_) (fun c_6 => ?_)
      · skip
        refine n_iconst hx hb 0 dX0_mayEnd_37 (by decide) ?_
        subst hQ
        exact e_roz hx hb hr hlocks (by first | rfl | exact nar_b _) (by unfold gMay; first | (rw [decide_eq_true (by omega)]; rfl) | (rw [decide_eq_false (by omega)]; rfl)) dX0_mayEnd_38
      · skip
        refine lv_aload_n hx hb dX0_mayEnd_26 rfl (lv_at hl 0 rfl) ?_
        refine va_get (D := G) (ci := 0) (v := .int (S 0 1)) (C := RX0) (T := TX0) (N := 3) hx hb hts hinX0 hown hK hP 0 rfl rfl 1 (by decide) lk23 (fun _ h9 => h9) rfl dX0_mayEnd_27 ?_
        refine n_top (y := nI dd) hd ?_
        refine n_if_ne (a := dd) (tgt := 37) hx hb (by omega) dX0_mayEnd_30 (by decide) (fun c_7 => ?_) (fun c_8 => ?_)
        · skip
          refine n_iconst hx hb 0 dX0_mayEnd_37 (by decide) ?_
          subst hQ
          exact e_roz hx hb hr hlocks (by first | rfl | exact nar_b _) (by unfold gMay; first | (rw [decide_eq_true (by omega)]; rfl) | (rw [decide_eq_false (by omega)]; rfl)) dX0_mayEnd_38
        · skip
          refine n_iconst hx hb 1 dX0_mayEnd_33 (by decide) ?_
          refine lv_goto (tgt := 38) hx hb dX0_mayEnd_34 (by decide) ?_
          subst hQ
          exact e_roz hx hb hr hlocks (by first | rfl | exact nar_b _) (by unfold gMay; first | (rw [decide_eq_true (by omega)]; rfl) | (rw [decide_eq_false (by omega)]; rfl)) dX0_mayEnd_38
