/-! Tune.read, Arrays.fill, the tree of shapes (pure), then their contracts (printed by wip/p33/s34.py) -/
def tA1 (c : Nat) (r : (Nat → Int32) × Nat × (Nat → Int32) × Nat) : (Nat → Int32) × Nat × (Nat → Int32) × Nat := (if r.2.1 < 9 then upd r.1 r.2.1 (pIx c) else r.1, pMin9 (r.2.1 + 1), r.2.2.1, r.2.2.2)
def tA2 (r : (Nat → Int32) × Nat × (Nat → Int32) × Nat) : (Nat → Int32) × Nat × (Nat → Int32) × Nat := (r.1, r.2.1, upd r.2.2.1 r.2.2.2 (nI r.2.1), r.2.2.2 + 1)
def tA3 (c : Nat) (r : (Nat → Int32) × Nat × (Nat → Int32) × Nat) : (Nat → Int32) × Nat × (Nat → Int32) × Nat := (pRep r.1 (nOf (r.2.2.1 (r.2.2.2 - 1))) r.2.1 (pAn r.2.1 (nOf (r.2.2.1 (r.2.2.2 - 1))) (nI c - nI 48)), pMn r.2.1 (pAn r.2.1 (nOf (r.2.2.1 (r.2.2.2 - 1))) (nI c - nI 48)), r.2.2.1, r.2.2.2 - 1)
def tSt (c : Nat) (r : (Nat → Int32) × Nat × (Nat → Int32) × Nat) : (Nat → Int32) × Nat × (Nat → Int32) × Nat := if ¬ pIx c < 0 then tA1 c r else if c = 40 ∧ r.2.2.2 < 3 then tA2 r else if ¬ c = 41 ∧ 0 < r.2.2.2 then tA3 c r else r
theorem tSt_1 {c : Nat} {r : (Nat → Int32) × Nat × (Nat → Int32) × Nat} (h : ¬ pIx c < 0) : tSt c r = tA1 c r := if_pos h
theorem tSt_2 {c : Nat} {r : (Nat → Int32) × Nat × (Nat → Int32) × Nat} (h : pIx c < 0) (h2 : c = 40 ∧ r.2.2.2 < 3) : tSt c r = tA2 r := by unfold tSt; rw [if_neg (fun q => q h), if_pos h2]
theorem tSt_3 {c : Nat} {r : (Nat → Int32) × Nat × (Nat → Int32) × Nat} (h : pIx c < 0) (h2 : ¬ (c = 40 ∧ r.2.2.2 < 3)) (h3 : ¬ c = 41 ∧ 0 < r.2.2.2) : tSt c r = tA3 c r := by unfold tSt; rw [if_neg (fun q => q h), if_neg h2, if_pos h3]
theorem tSt_4 {c : Nat} {r : (Nat → Int32) × Nat × (Nat → Int32) × Nat} (h : pIx c < 0) (h2 : ¬ (c = 40 ∧ r.2.2.2 < 3)) (h3 : ¬ (¬ c = 41 ∧ 0 < r.2.2.2)) : tSt c r = r := by unfold tSt; rw [if_neg (fun q => q h), if_neg h2, if_neg h3]
/-- Tune.read: notes, how many, where groups begin, how deep -/
def tV (cd : Nat → Nat) (L a : Nat) (f0 g0 : Nat → Int32) : Nat → (Nat → Int32) × Nat × (Nat → Int32) × Nat | 0 => (f0, 0, g0, 0) | k + 1 => tSt (pAt cd L (a + k)) (tV cd L a f0 g0 k)
theorem tV_s (cd : Nat → Nat) (L a : Nat) (f0 g0 : Nat → Int32) (k : Nat) : tV cd L a f0 g0 (k + 1) = tSt (pAt cd L (a + k)) (tV cd L a f0 g0 k) := rfl
theorem pMin9_le (n : Nat) : pMin9 n ≤ 9 := by unfold pMin9; split <;> omega
def tOk (r : (Nat → Int32) × Nat × (Nat → Int32) × Nat) : Prop := r.2.1 ≤ 9 ∧ r.2.2.2 ≤ 3 ∧ ∀ j, j < r.2.2.2 → r.2.2.1 j = nI (nOf (r.2.2.1 j)) ∧ nOf (r.2.2.1 j) ≤ 9
theorem tSt_ok {c : Nat} {r : (Nat → Int32) × Nat × (Nat → Int32) × Nat} (h : tOk r) : tOk (tSt c r) := by
  obtain ⟨h1, h2, h3⟩ := h
  unfold tSt
  split
  · exact ⟨pMin9_le _, h2, h3⟩
  · split
    · rename_i hc
      refine ⟨h1, ?_, fun j hj => ?_⟩
      · show r.2.2.2 + 1 ≤ 3
        omega
      · show upd r.2.2.1 r.2.2.2 (nI r.2.1) j = nI (nOf (upd r.2.2.1 r.2.2.2 (nI r.2.1) j)) ∧ nOf (upd r.2.2.1 r.2.2.2 (nI r.2.1) j) ≤ 9
        by_cases hjd : j = r.2.2.2
        · subst hjd
          rw [pk_us, nOf_n (by omega)]
          exact ⟨rfl, h1⟩
        · rw [pk_un hjd]
          have hj' : j < r.2.2.2 + 1 := hj
          exact h3 j (by omega)
    · split
      · refine ⟨pMn_le _ _, ?_, fun j hj => ?_⟩
        · show r.2.2.2 - 1 ≤ 3
          omega
        · have hj' : j < r.2.2.2 - 1 := hj
          exact h3 j (by omega)
      · exact ⟨h1, h2, h3⟩
theorem tV_ok (cd : Nat → Nat) (L a : Nat) (f0 g0 : Nat → Int32) (k : Nat) : tOk (tV cd L a f0 g0 k) := by
  induction k with
  | zero => exact ⟨by simp [tV], by simp [tV], fun j hj => absurd hj (by simp [tV])⟩
  | succ k ih => exact tSt_ok ih
def pFl (f : Nat → Int32) (v : Int32) : Nat → (Nat → Int32) | 0 => f | k + 1 => upd (pFl f v k) k v
theorem pFl_lt (f : Nat → Int32) (v : Int32) : ∀ k j, j < k → pFl f v k j = v := by
  intro k
  induction k with
  | zero => intro j hj; omega
  | succ k ih =>
    intro j hj
    simp only [pFl]
    by_cases h : j = k
    · subst h; exact pk_us
    · rw [pk_un h]; exact ih j (by omega)
def pSm (f : Nat → Int32) : Nat → Int32 | 0 => nI 0 | k + 1 => pSm f k + f k
/-- floorMod by 7, a Nat -/
def nFM (x : Int32) : Nat := nOf (pFM x (nI 7))
def nUp (f : Nat → Nat) (e v : Nat) : Nat → Nat := fun j => if j = e then v else f j
theorem nUp_I (f : Nat → Nat) (e v : Nat) : upd (fun i => nI (f i)) e (nI v) = fun i => nI (nUp f e v i) := by
  funext j
  unfold upd nUp
  split <;> rfl
def cfC (ch : Nat → Nat) (nd e : Nat) : Nat → Nat := if ch e = 0 ∧ nd + 1 < 161 then nUp ch e (nd + 1) else ch
def cfN (ch : Nat → Nat) (nd e : Nat) : Nat := if ch e = 0 ∧ nd + 1 < 161 then nd + 1 else nd
def tS (S : Nat → Nat → Int32) (m k : Nat) : Nat := nFM (S 7 (m * 8 + k) - S 7 (m * 8))
/-- the tree while a shape is added: children, nodes, where we are -/
def tAd (S : Nat → Nat → Int32) (m : Nat) (ch : Nat → Nat) (nd : Nat) : Nat → (Nat → Nat) × Nat × Nat | 0 => (ch, nd, 0) | k + 1 => (cfC (tAd S m ch nd k).1 (tAd S m ch nd k).2.1 ((tAd S m ch nd k).2.2 * 7 + tS S m k), cfN (tAd S m ch nd k).1 (tAd S m ch nd k).2.1 ((tAd S m ch nd k).2.2 * 7 + tS S m k), cfC (tAd S m ch nd k).1 (tAd S m ch nd k).2.1 ((tAd S m ch nd k).2.2 * 7 + tS S m k) ((tAd S m ch nd k).2.2 * 7 + tS S m k))
/-- the tree behind growFrom: children, messages, nodes -/
def tG (S : Nat → Nat → Int32) (tl : Nat → Nat) : Nat → (Nat → Nat) × (Nat → Int32) × Nat | 0 => (fun _ => 0, fun _ => -1, 0) | m + 1 => if 0 < tl m then ((tAd S m (tG S tl m).1 (tG S tl m).2.2 (tl m)).1, upd (tG S tl m).2.1 (tAd S m (tG S tl m).1 (tG S tl m).2.2 (tl m)).2.2 (nI m), (tAd S m (tG S tl m).1 (tG S tl m).2.2 (tl m)).2.1) else tG S tl m
theorem tG_1 {S : Nat → Nat → Int32} {tl : Nat → Nat} {m : Nat} (h : 0 < tl m) : tG S tl (m + 1) = ((tAd S m (tG S tl m).1 (tG S tl m).2.2 (tl m)).1, upd (tG S tl m).2.1 (tAd S m (tG S tl m).1 (tG S tl m).2.2 (tl m)).2.2 (nI m), (tAd S m (tG S tl m).1 (tG S tl m).2.2 (tl m)).2.1) := by simp only [tG]; rw [if_pos h]
theorem tG_2 {S : Nat → Nat → Int32} {tl : Nat → Nat} {m : Nat} (h : ¬ 0 < tl m) : tG S tl (m + 1) = tG S tl m := by simp only [tG]; rw [if_neg h]
def chOk (ch : Nat → Nat) (nd : Nat) : Prop := nd ≤ 160 ∧ ∀ e, ch e ≤ nd
theorem cf_ok {ch : Nat → Nat} {nd : Nat} (h : chOk ch nd) (e : Nat) : chOk (cfC ch nd e) (cfN ch nd e) := by
  unfold cfC cfN
  split
  · refine ⟨by omega, fun j => ?_⟩
    unfold nUp
    have := h.2 j
    split <;> omega
  · exact h
theorem tAd_ok {S : Nat → Nat → Int32} {m : Nat} {ch : Nat → Nat} {nd : Nat} (h : chOk ch nd) (k : Nat) : chOk (tAd S m ch nd k).1 (tAd S m ch nd k).2.1 ∧ (tAd S m ch nd k).2.2 ≤ (tAd S m ch nd k).2.1 := by
  induction k with
  | zero => exact ⟨h, Nat.zero_le _⟩
  | succ k ih => exact ⟨cf_ok ih.1 _, (cf_ok ih.1 _).2 _⟩
theorem tG_ok (S : Nat → Nat → Int32) (tl : Nat → Nat) (m : Nat) : chOk (tG S tl m).1 (tG S tl m).2.2 := by
  induction m with
  | zero => exact ⟨by simp [tG], fun e => by simp [tG]⟩
  | succ m ih =>
    rcases Nat.eq_zero_or_pos (tl m) with h | h
    · rw [tG_2 (by omega)]; exact ih
    · rw [tG_1 h]; exact (tAd_ok ih (tl m)).1
theorem xor_sgn : ∀ b : Bool, (b ^^ false) = b := by decide
theorem fmx (x : Int32) : (0 ≤ x ^^^ nI 7) ↔ 0 ≤ x.toInt := by
  have h7 : nI 7 = 7 := rfl
  rw [h7, Int32.le_iff_toInt_le, Int32.toInt_zero]
  have : (x ^^^ 7).toBitVec.msb = x.toBitVec.msb := by
    show (x.toBitVec ^^^ (7 : Int32).toBitVec).msb = _
    rw [BitVec.msb_xor]
    have : ((7 : Int32).toBitVec).msb = false := by decide
    rw [this, Bool.xor_false]
  show 0 ≤ (x ^^^ 7).toBitVec.toInt ↔ 0 ≤ x.toBitVec.toInt
  constructor
  · intro h
    have h2 : (x ^^^ 7).toBitVec.msb = false := by
      cases hm : (x ^^^ 7).toBitVec.msb with
      | false => rfl
      | true => exact absurd h (by have := BitVec.toInt_neg_of_msb_true hm; omega)
    exact BitVec.toInt_nonneg_of_msb_false (this ▸ h2)
  · intro h
    have h2 : x.toBitVec.msb = false := by
      cases hm : x.toBitVec.msb with
      | false => rfl
      | true => exact absurd h (by have := BitVec.toInt_neg_of_msb_true hm; omega)
    exact BitVec.toInt_nonneg_of_msb_false (this.trans h2)
theorem fm7 (x : Int32) : pFM x (nI 7) = nI (nFM x) ∧ nFM x < 7 := by
  have h1 := rem_toInt x (nI 7)
  have e7 : (nI 7).toInt = 7 := nI_toInt (by decide)
  have e0 : (nI 0).toInt = 0 := nI_toInt (by decide)
  rw [e7] at h1
  have hb := tmod_bounds (a := x.toInt) (M := 7) (by decide)
  have hir : (iRem x (nI 7)).toInt = x.toInt.tmod 7 := h1
  have key : ∃ j : Nat, j < 7 ∧ pFM x (nI 7) = nI j := by
    have pos : ∀ z : Int32, 0 ≤ z.toInt → z.toInt < 7 → ∃ j : Nat, j < 7 ∧ z = nI j := fun z h1 h2 => ⟨z.toInt.toNat, by omega, Int32.toInt_inj.mp (by rw [nI_toInt (by omega)]; omega)⟩
    have hx : (0 ≤ x ^^^ nI 7) ↔ 0 ≤ x.toInt := fmx x
    unfold pFM
    split
    · rename_i h
      have h9 := hx.mp h
      refine pos _ ?_ (by omega)
      rw [hir]
      exact Int.tmod_nonneg 7 h9
    · rename_i h
      have h9 : ¬ 0 ≤ x.toInt := fun q => h (hx.mpr q)
      split
      · rename_i hz
        exact pos _ (by rw [hz]; decide) (by rw [hz]; decide)
      · rename_i hz
        have hn : x.toInt.tmod 7 ≤ 0 := by
          have h5 := Int.tmod_nonneg (a := -x.toInt) 7 (by omega)
          rw [Int.neg_tmod] at h5
          omega
        have hne : x.toInt.tmod 7 ≠ 0 := fun q => hz (Int32.toInt_inj.mp (by rw [hir, q]; rfl))
        have hs : (iRem x (nI 7) + nI 7).toInt = x.toInt.tmod 7 + 7 := by
          rw [Int32.toInt_add, hir, e7]
          exact Int.bmod_eq_of_le (by omega) (by omega)
        exact pos _ (by rw [hs]; omega) (by rw [hs]; omega)
  obtain ⟨j, hj, he⟩ := key
  unfold nFM
  rw [he, nOf_n (by omega)]
  exact ⟨rfl, hj⟩
def mOf (ch : Nat → Nat) (ms : Nat → Int32) (sh : Nat → Nat) : Nat → Nat → Nat → Int32 | 0, nd, _ => ms nd | j + 1, nd, k => if ch (nd * 7 + sh k) = 0 then -1 else mOf ch ms sh j (ch (nd * 7 + sh k)) (k + 1)
theorem mOf_z {ch : Nat → Nat} {ms : Nat → Int32} {sh : Nat → Nat} {n nd k : Nat} (hk : k < n) (h : ch (nd * 7 + sh k) = 0) : mOf ch ms sh (n - k) nd k = -1 := by
  rw [show n - k = (n - (k + 1)) + 1 by omega]
  simp [mOf, h]
theorem mOf_s {ch : Nat → Nat} {ms : Nat → Int32} {sh : Nat → Nat} {n nd k : Nat} (hk : k < n) (h : ¬ ch (nd * 7 + sh k) = 0) : mOf ch ms sh (n - k) nd k = mOf ch ms sh (n - (k + 1)) (ch (nd * 7 + sh k)) (k + 1) := by
  rw [show n - k = (n - (k + 1)) + 1 by omega]
  simp [mOf, h]
def nSh (f : Nat → Int32) (k : Nat) : Nat := nFM (f k - f 0)

set_option maxHeartbeats 4000000 in
set_option maxRecDepth 100000 in
theorem c_X6_read (l : Launch) (G : va_G) (T : Nat → ClassId) (sz : Nat) (u : Nat → Nat) (qt : Nat → Nat) (U : Nat → Nat → Int32) (X : Nat → Nat → Int32) (a : Nat) (b : Nat) (n : Nat) (cd : Nat → Nat) (hab : a ≤ b) (hb60 : b ≤ 60) (hlen : X 0 1 = nI n) (hn60 : n ≤ 60) (hcd : ∀ i : Nat, i < n → X 1 i = nI (cd i)) (hc127 : ∀ i : Nat, i < n → cd i < 127) : RWv l yX6_read wsX6_read 4 0 0 G T sz (oX6 T u U ++ oX5 T qt X) [.ref (u 0), .ref (qt 0), .int (nI a), .int (nI b)] (oX6 T u (sa (sa (sc U 2 (nI (tV cd n a (U 1) (U 2) (b - a)).2.1)) 1 (tV cd n a (U 1) (U 2) (b - a)).1) 2 (tV cd n a (U 1) (U 2) (b - a)).2.2.1) ++ oX5 T qt X) := by
  refine Met.ofW (cc := cX6_read) (maxL := 8) (ret := none) (by decide) rfl ?_
  intro p e s m args below meth c s₁ B hml hv
  obtain ⟨ha, hsz, hP, hK, hD0, hE0⟩ := hv
  have hx := B.exec
  have hb := B.bytes
  have hr := B.returns
  have hlocks := B.notSynchronized
  have hts := atoms_spec (ws := wsX6_read) B.pre
  have hown : s.vm.findClass RX6 = some m.cls := findClass_of_methodNamed B.named
  have cx : CallFix p m c cX6_read 8 s args wsX6_read RX6 := ⟨hx, hb, hml, hown, hts⟩
  subst hsz
  have hD := hD0.self (sz := s.heap.size)
  generalize hAe : va_A (oX6 T u U ++ oX5 T qt X) s.heap.size = A at hD hE0 ⊢
  have hE : gE A s s.heap := hE0
  have hA : ∀ q : Nat, s.heap.size ≤ q → A q := fun q h => by rw [← hAe]; exact Or.inr h
  have hS : va_S A s.heap s.heap [] := va_S.rf
  refine w_entry ha (Nat.le_of_ble_eq_true rfl) (fun ls hl => ?_)
  refine w_q (fun Q0 hQ => ?_)
  have lk18 := hts (.fieldLink RX6 18 "WhistleTunes$Tune" "length" "I") (by decide +kernel)
  have hinX6 : ∀ w ∈ wsX60, w ∈ wsX6_read := by decide +kernel
  have lk15 := hts (.fieldLink RX6 15 "WhistleTunes$Tune" "groupStarts" "[I") (by decide +kernel)
  have hl : lv_has ls 8 [(0, .ref (u 0)), (1, .ref (qt 0)), (2, .int (nI a)), (3, .int (nI b))] := hl
  have hP : va_P G vwCl [(u 0, .inr (6, [.ref (u 1), .ref (u 2), .int (U 0 2)])), (u 1, .inl (T 0, 9, .inl (U 1))), (u 2, .inl (T 0, 3, .inl (U 2))), (qt 0, .inr (5, [.ref (qt 1), .int (X 0 1)])), (qt 1, .inl (T 1, 60, .inl (X 1)))] s.heap := hP
  have hD : va_D A [(u 0, .inr (6, [.ref (u 1), .ref (u 2), .int (U 0 2)])), (u 1, .inl (T 0, 9, .inl (U 1))), (u 2, .inl (T 0, 3, .inl (U 2))), (qt 0, .inr (5, [.ref (qt 1), .int (X 0 1)])), (qt 1, .inl (T 1, 60, .inl (X 1)))] := hD
  skip
  obtain ⟨adK, adV, hvk, hstr0, hstr⟩ := hE.2.2.1
  refine w_h (fun H locs hHe hLe => ?_)
  have hP : va_P G vwCl [(u 0, .inr (6, [.ref (u 1), .ref (u 2), .int (U 0 2)])), (u 1, .inl (T 0, 9, .inl (U 1))), (u 2, .inl (T 0, 3, .inl (U 2))), (qt 0, .inr (5, [.ref (qt 1), .int (X 0 1)])), (qt 1, .inl (T 1, 60, .inl (X 1)))] H := by rw [hHe]; exact hP
  have hS : va_S A s.heap H locs := by rw [hHe, hLe]; exact hS
  refine lv_aload_n hx hb dX6_read_0 rfl (lv_at hl 0 rfl) ?_
  refine n_iconst hx hb 0 dX6_read_1 (by decide) ?_
  refine va_put (D := G) (ci := 6) (v := .int (nI 0)) (ty := .int) (C := RX6) (T := TX6) (N := 3) hx hb hts hinX6 tyX6 tyX6_ok nmX6 hown hK hP hD hS 0 rfl rfl 2 (by decide) lk18 (fun _ h9 => h9) rfl (by decide +kernel) rfl rfl (Nat.le_of_ble_eq_true rfl) dX6_read_2 (fun H locs hP hD hS => ?_)
  have hP : va_P G vwCl [(u 0, .inr (6, [.ref (u 1), .ref (u 2), .int (nI 0)])), (u 1, .inl (T 0, 9, .inl (U 1))), (u 2, .inl (T 0, 3, .inl (U 2))), (qt 0, .inr (5, [.ref (qt 1), .int (X 0 1)])), (qt 1, .inl (T 1, 60, .inl (X 1)))] H := hP
  have hD : va_D A [(u 0, .inr (6, [.ref (u 1), .ref (u 2), .int (nI 0)])), (u 1, .inl (T 0, 9, .inl (U 1))), (u 2, .inl (T 0, 3, .inl (U 2))), (qt 0, .inr (5, [.ref (qt 1), .int (X 0 1)])), (qt 1, .inl (T 1, 60, .inl (X 1)))] := hD
  refine n_iconst hx hb 0 dX6_read_5 (by decide) ?_
  refine lv_istore (lv' := [(4, .int (nI 0)), (0, .ref (u 0)), (1, .ref (qt 0)), (2, .int (nI a)), (3, .int (nI b))]) hx hb dX6_read_6 hl (by decide) rfl (fun ls hl => ?_)
  refine lv_iload_n hx hb dX6_read_8 rfl (lv_at hl 3 rfl) ?_
  refine lv_istore (lv' := [(5, .int (nI a)), (4, .int (nI 0)), (0, .ref (u 0)), (1, .ref (qt 0)), (2, .int (nI a)), (3, .int (nI b))]) hx hb dX6_read_9 hl (by decide) rfl (fun ls hl => ?_)
  have L11 : ∀ (n9 k : Nat) (hk1 : k ≤ b - a) (hk2 : b - a - k < n9) (x5 : Int32) (x4 : Int32) (F_1 : Nat → Int32) (y_2 : Int32) (F_3 : Nat → Int32) (hx5 : x5 = nI (a + k)) (hx4 : x4 = nI (tV cd n a (U 1) (U 2) k).2.2.2) (hF_1 : F_1 = (tV cd n a (U 1) (U 2) k).1) (hy_2 : y_2 = nI (tV cd n a (U 1) (U 2) k).2.1) (hF_3 : F_3 = (tV cd n a (U 1) (U 2) k).2.2.1) (H : Heap) (locs : List Loc) (hP : va_P G vwCl [(u 0, .inr (6, [.ref (u 1), .ref (u 2), .int y_2])), (u 1, .inl (T 0, 9, .inl F_1)), (u 2, .inl (T 0, 3, .inl F_3)), (qt 0, .inr (5, [.ref (qt 1), .int (X 0 1)])), (qt 1, .inl (T 1, 60, .inl (X 1)))] H) (hD : va_D A [(u 0, .inr (6, [.ref (u 1), .ref (u 2), .int y_2])), (u 1, .inl (T 0, 9, .inl F_1)), (u 2, .inl (T 0, 3, .inl F_3)), (qt 0, .inr (5, [.ref (qt 1), .int (X 0 1)])), (qt 1, .inl (T 1, 60, .inl (X 1)))]) (hS : va_S A s.heap H locs) (ls : Array Slot) (hl : lv_has ls 8 [(5, .int x5), (4, .int x4), (0, .ref (u 0)), (1, .ref (qt 0)), (2, .int (nI a)), (3, .int (nI b))]), W p l e (headSpec wsX6_read (rmD 4 0 0)).room s m args below meth c H locs 0 0 Q0 (F0 m 11 ls []) := by
    intro n9
    induction n9 with
    | zero => intros; omega
    | succ n9 ih11 =>
      intro k hk1 hk2 x5 x4 F_1 y_2 F_3 hx5 hx4 hF_1 hy_2 hF_3 H locs hP hD hS ls hl
      subst hx5 hx4 hF_1 hy_2 hF_3
      obtain ⟨hr9, hr3, hgv⟩ := tV_ok cd n a (U 1) (U 2) k
      have hpa := pAt_lt (i := a + k) hc127
      refine lv_iload hx hb dX6_read_11 (lv_at hl 0 rfl) ?_
      refine lv_iload_n hx hb dX6_read_13 rfl (lv_at hl 5 rfl) ?_
      refine n_icmp_ge (a := a + k) (b := b) (tgt := 115) hx hb (by omega) (by omega) dX6_read_14 (by decide) (fun c_4 => ?_) (fun c_5 => ?_)
      · skip
        subst hQ
        have e_6 : (tV cd n a (U 1) (U 2) k).1 = (tV cd n a (U 1) (U 2) (b - a)).1 := (by obtain rfl : k = b - a := (by omega); rfl)
        have e_7 : (tV cd n a (U 1) (U 2) k).2.2.1 = (tV cd n a (U 1) (U 2) (b - a)).2.2.1 := (by obtain rfl : k = b - a := (by omega); rfl)
        have e_8 : nI (tV cd n a (U 1) (U 2) k).2.1 = nI (tV cd n a (U 1) (U 2) (b - a)).2.1 := (by obtain rfl : k = b - a := (by omega); rfl)
        rw [e_8, e_7, e_6] at hP hD
        have hP9 : va_P G vwCl (oX6 T u (sa (sa (sc U 2 (nI (tV cd n a (U 1) (U 2) (b - a)).2.1)) 1 (tV cd n a (U 1) (U 2) (b - a)).1) 2 (tV cd n a (U 1) (U 2) (b - a)).2.2.1) ++ oX5 T qt X) H := hP
        have hD9 : va_D A (oX6 T u (sa (sa (sc U 2 (nI (tV cd n a (U 1) (U 2) (b - a)).2.1)) 1 (tV cd n a (U 1) (U 2) (b - a)).1) 2 (tV cd n a (U 1) (U 2) (b - a)).2.2.1) ++ oX5 T qt X) := hD
        exact e_rwv hx hb hr hlocks hS hP9 hD9 dX6_read_115
      · skip
        refine lv_aload_n hx hb dX6_read_17 rfl (lv_at hl 3 rfl) ?_
        refine lv_iload hx hb dX6_read_18 (lv_at hl 0 rfl) ?_
        refine k_roV (As := [.int (nI (a + k))]) (rest := []) (wc := oX5 T qt X) (d := 0) (v := nI (pAt cd n (a + k))) cx (c_X5_at l G T A qt X (a + k) n cd (by first | assumption | rfl | omega) (by omega) (by first | assumption | rfl | omega) (by omega) (by omega)) (cwV 1 hts gX6_read_X5_at rfl rfl rfl (by decide +kernel) ⟨Nat.le_of_ble_eq_true rfl, Nat.le_of_ble_eq_true rfl⟩) (hP.sub (ws' := oX5 T qt X) [3, 4] rfl) hK (hE.kept hS.2.1) (va_recv hK hP (ci := 5) (q0 := 3) rfl rfl) rfl hl.1 rfl (Nat.le_of_ble_eq_true rfl) dX6_read_20 ⟨Nat.le_of_ble_eq_true rfl, Nat.le_of_ble_eq_true rfl⟩ ?_
        refine lv_istore (lv' := [(6, .int (nI (pAt cd n (a + k)))), (5, .int (nI (a + k))), (4, .int (nI (tV cd n a (U 1) (U 2) k).2.2.2)), (0, .ref (u 0)), (1, .ref (qt 0)), (2, .int (nI a)), (3, .int (nI b))]) hx hb dX6_read_23 hl (by decide) rfl (fun ls hl => ?_)
        refine va_ldcS hx hb hown hstr dX6_read_25 ?_
        refine lv_iload hx hb dX6_read_27 (lv_at hl 0 rfl) ?_
        refine k_rsV (As := [.int (nI (pAt cd n (a + k)))]) (rest := []) (d := 3) (v := pIx (pAt cd n (a + k))) cx (c_J0_indexOf_0f7a4 l G T A (adK 0) (adV 0) (pAt cd n (a + k)) (by omega)) (cwV 1 hts gX6_read_J0_indexOf_0f7a4 rfl rfl rfl (by decide +kernel) ⟨Nat.le_of_ble_eq_true rfl, Nat.le_of_ble_eq_true rfl⟩) hK (hE.kept hS.2.1) ⟨adK, adV, hvk.kept hS.2.1, rfl, rfl⟩ (vk_recv hvk (by decide) hS) rfl hl.1 rfl (Nat.le_of_ble_eq_true rfl) dX6_read_29 ⟨Nat.le_of_ble_eq_true rfl, Nat.le_of_ble_eq_true rfl⟩ ?_
        refine lv_istore (lv' := [(7, .int (pIx (pAt cd n (a + k)))), (6, .int (nI (pAt cd n (a + k)))), (5, .int (nI (a + k))), (4, .int (nI (tV cd n a (U 1) (U 2) k).2.2.2)), (0, .ref (u 0)), (1, .ref (qt 0)), (2, .int (nI a)), (3, .int (nI b))]) hx hb dX6_read_32 hl (by decide) rfl (fun ls hl => ?_)
        refine lv_iload hx hb dX6_read_34 (lv_at hl 0 rfl) ?_
        refine lv_if_lt (tgt := 48) hx hb dX6_read_36 (by decide) (fun c_9 => ?_) (fun c_10 => ?_)
        · skip
          refine lv_iload hx hb dX6_read_48 (lv_at hl 1 rfl) ?_
          refine lv_bipush (v := nI 40) hx hb dX6_read_50 (by decide) ?_
          refine n_icmp_ne (a := pAt cd n (a + k)) (b := 40) (tgt := 78) hx hb (by omega) (by decide) dX6_read_52 (by decide) (fun c_11 => ?_) (fun c_12 => ?_)
          · skip
            refine lv_iload hx hb dX6_read_78 (lv_at hl 1 rfl) ?_
            refine lv_bipush (v := nI 41) hx hb dX6_read_80 (by decide) ?_
            refine n_icmp_eq (a := pAt cd n (a + k)) (b := 41) (tgt := 109) hx hb (by omega) (by decide) dX6_read_82 (by decide) (fun c_13 => ?_) (fun c_14 => ?_)
            · skip
              refine lv_iinc (v := nI (a + k + 1)) (lv' := [(5, .int (nI (a + k + 1))), (7, .int (pIx (pAt cd n (a + k)))), (6, .int (nI (pAt cd n (a + k)))), (4, .int (nI (tV cd n a (U 1) (U 2) k).2.2.2)), (0, .ref (u 0)), (1, .ref (qt 0)), (2, .int (nI a)), (3, .int (nI b))]) hx hb dX6_read_109 hl (k := 2) rfl (n_inc (a + k) 1 rfl) (by decide) rfl (fun ls hl => ?_)
              refine lv_goto (tgt := 11) hx hb dX6_read_112 (by decide) ?_
              have e_15 : (nI (a + k + 1)) = nI (a + (k + 1)) := rfl
              have e_16 : (nI (tV cd n a (U 1) (U 2) k).2.2.2) = nI (tV cd n a (U 1) (U 2) (k + 1)).2.2.2 := (by rw [tV_s]; first | (rw [tSt_1 (by assumption)]; done) | (rw [tSt_2 (by assumption) (by omega)]; done) | (rw [tSt_3 (by assumption) (by omega) (by omega)]; done) | (rw [tSt_4 (by assumption) (by omega) (by omega)]; done) | (rw [tSt_1 (by assumption)]; rfl) | (rw [tSt_2 (by assumption) (by omega)]; rfl) | (rw [tSt_3 (by assumption) (by omega) (by omega)]; rfl) | (rw [tSt_4 (by assumption) (by omega) (by omega)]; rfl))
              have e_17 : (tV cd n a (U 1) (U 2) k).1 = (tV cd n a (U 1) (U 2) (k + 1)).1 := (by rw [tV_s]; first | (rw [tSt_1 (by assumption)]; done) | (rw [tSt_2 (by assumption) (by omega)]; done) | (rw [tSt_3 (by assumption) (by omega) (by omega)]; done) | (rw [tSt_4 (by assumption) (by omega) (by omega)]; done) | (rw [tSt_1 (by assumption)]; rfl) | (rw [tSt_2 (by assumption) (by omega)]; rfl) | (rw [tSt_3 (by assumption) (by omega) (by omega)]; rfl) | (rw [tSt_4 (by assumption) (by omega) (by omega)]; rfl))
              have e_18 : (nI (tV cd n a (U 1) (U 2) k).2.1) = nI (tV cd n a (U 1) (U 2) (k + 1)).2.1 := (by rw [tV_s]; first | (rw [tSt_1 (by assumption)]; done) | (rw [tSt_2 (by assumption) (by omega)]; done) | (rw [tSt_3 (by assumption) (by omega) (by omega)]; done) | (rw [tSt_4 (by assumption) (by omega) (by omega)]; done) | (rw [tSt_1 (by assumption)]; rfl) | (rw [tSt_2 (by assumption) (by omega)]; rfl) | (rw [tSt_3 (by assumption) (by omega) (by omega)]; rfl) | (rw [tSt_4 (by assumption) (by omega) (by omega)]; rfl))
              have e_19 : (tV cd n a (U 1) (U 2) k).2.2.1 = (tV cd n a (U 1) (U 2) (k + 1)).2.2.1 := (by rw [tV_s]; first | (rw [tSt_1 (by assumption)]; done) | (rw [tSt_2 (by assumption) (by omega)]; done) | (rw [tSt_3 (by assumption) (by omega) (by omega)]; done) | (rw [tSt_4 (by assumption) (by omega) (by omega)]; done) | (rw [tSt_1 (by assumption)]; rfl) | (rw [tSt_2 (by assumption) (by omega)]; rfl) | (rw [tSt_3 (by assumption) (by omega) (by omega)]; rfl) | (rw [tSt_4 (by assumption) (by omega) (by omega)]; rfl))
              exact ih11 (k + 1) (by omega) (by omega) _ _ _ _ _ e_15 e_16 e_17 e_18 e_19 _ _ hP hD hS _ (lv_sub hl [0, 3, 4, 5, 6, 7] rfl)
            · skip
              refine lv_iload hx hb dX6_read_85 (lv_at hl 3 rfl) ?_
              refine n_if_le (a := (tV cd n a (U 1) (U 2) k).2.2.2) (tgt := 109) hx hb (by omega) dX6_read_87 (by decide) (fun c_20 => ?_) (fun c_21 => ?_)
              · skip
                refine lv_iinc (v := nI (a + k + 1)) (lv' := [(5, .int (nI (a + k + 1))), (7, .int (pIx (pAt cd n (a + k)))), (6, .int (nI (pAt cd n (a + k)))), (4, .int (nI (tV cd n a (U 1) (U 2) k).2.2.2)), (0, .ref (u 0)), (1, .ref (qt 0)), (2, .int (nI a)), (3, .int (nI b))]) hx hb dX6_read_109 hl (k := 2) rfl (n_inc (a + k) 1 rfl) (by decide) rfl (fun ls hl => ?_)
                refine lv_goto (tgt := 11) hx hb dX6_read_112 (by decide) ?_
                have e_22 : (nI (a + k + 1)) = nI (a + (k + 1)) := rfl
                have e_23 : (nI (tV cd n a (U 1) (U 2) k).2.2.2) = nI (tV cd n a (U 1) (U 2) (k + 1)).2.2.2 := (by rw [tV_s]; first | (rw [tSt_1 (by assumption)]; done) | (rw [tSt_2 (by assumption) (by omega)]; done) | (rw [tSt_3 (by assumption) (by omega) (by omega)]; done) | (rw [tSt_4 (by assumption) (by omega) (by omega)]; done) | (rw [tSt_1 (by assumption)]; rfl) | (rw [tSt_2 (by assumption) (by omega)]; rfl) | (rw [tSt_3 (by assumption) (by omega) (by omega)]; rfl) | (rw [tSt_4 (by assumption) (by omega) (by omega)]; rfl))
                have e_24 : (tV cd n a (U 1) (U 2) k).1 = (tV cd n a (U 1) (U 2) (k + 1)).1 := (by rw [tV_s]; first | (rw [tSt_1 (by assumption)]; done) | (rw [tSt_2 (by assumption) (by omega)]; done) | (rw [tSt_3 (by assumption) (by omega) (by omega)]; done) | (rw [tSt_4 (by assumption) (by omega) (by omega)]; done) | (rw [tSt_1 (by assumption)]; rfl) | (rw [tSt_2 (by assumption) (by omega)]; rfl) | (rw [tSt_3 (by assumption) (by omega) (by omega)]; rfl) | (rw [tSt_4 (by assumption) (by omega) (by omega)]; rfl))
                have e_25 : (nI (tV cd n a (U 1) (U 2) k).2.1) = nI (tV cd n a (U 1) (U 2) (k + 1)).2.1 := (by rw [tV_s]; first | (rw [tSt_1 (by assumption)]; done) | (rw [tSt_2 (by assumption) (by omega)]; done) | (rw [tSt_3 (by assumption) (by omega) (by omega)]; done) | (rw [tSt_4 (by assumption) (by omega) (by omega)]; done) | (rw [tSt_1 (by assumption)]; rfl) | (rw [tSt_2 (by assumption) (by omega)]; rfl) | (rw [tSt_3 (by assumption) (by omega) (by omega)]; rfl) | (rw [tSt_4 (by assumption) (by omega) (by omega)]; rfl))
                have e_26 : (tV cd n a (U 1) (U 2) k).2.2.1 = (tV cd n a (U 1) (U 2) (k + 1)).2.2.1 := (by rw [tV_s]; first | (rw [tSt_1 (by assumption)]; done) | (rw [tSt_2 (by assumption) (by omega)]; done) | (rw [tSt_3 (by assumption) (by omega) (by omega)]; done) | (rw [tSt_4 (by assumption) (by omega) (by omega)]; done) | (rw [tSt_1 (by assumption)]; rfl) | (rw [tSt_2 (by assumption) (by omega)]; rfl) | (rw [tSt_3 (by assumption) (by omega) (by omega)]; rfl) | (rw [tSt_4 (by assumption) (by omega) (by omega)]; rfl))
                exact ih11 (k + 1) (by omega) (by omega) _ _ _ _ _ e_22 e_23 e_24 e_25 e_26 _ _ hP hD hS _ (lv_sub hl [0, 3, 4, 5, 6, 7] rfl)
              · skip
                refine lv_iinc (v := nI ((tV cd n a (U 1) (U 2) k).2.2.2 - 1)) (lv' := [(4, .int (nI ((tV cd n a (U 1) (U 2) k).2.2.2 - 1))), (7, .int (pIx (pAt cd n (a + k)))), (6, .int (nI (pAt cd n (a + k)))), (5, .int (nI (a + k))), (0, .ref (u 0)), (1, .ref (qt 0)), (2, .int (nI a)), (3, .int (nI b))]) hx hb dX6_read_90 hl (k := 3) rfl (n_dec (by omega)) (by decide) rfl (fun ls hl => ?_)
                refine lv_aload_n hx hb dX6_read_93 rfl (lv_at hl 4 rfl) ?_
                refine lv_aload_n hx hb dX6_read_94 rfl (lv_at hl 4 rfl) ?_
                refine va_get (D := G) (ci := 6) (v := .ref (u 2)) (C := RX6) (T := TX6) (N := 3) hx hb hts hinX6 hown hK hP 0 rfl rfl 1 (by decide) lk15 (fun _ h9 => h9) rfl dX6_read_95 ?_
                refine lv_iload hx hb dX6_read_98 (lv_at hl 0 rfl) ?_
                refine n_iald hx hb hK hP 2 0 rfl rfl ((tV cd n a (U 1) (U 2) k).2.2.2 - 1) (by omega) (by decide) dX6_read_100 ?_
                refine n_top (y := nI (nOf ((tV cd n a (U 1) (U 2) k).2.2.1 ((tV cd n a (U 1) (U 2) k).2.2.2 - 1)))) (hgv _ (by omega)).1 ?_
                refine lv_iload hx hb dX6_read_101 (lv_at hl 2 rfl) ?_
                refine lv_bipush (v := nI 48) hx hb dX6_read_103 (by decide) ?_
                refine lv_isub hx hb dX6_read_105 ?_
                refine k_rvV (As := [.int (nI (nOf ((tV cd n a (U 1) (U 2) k).2.2.1 ((tV cd n a (U 1) (U 2) k).2.2.2 - 1)))), .int ((nI (pAt cd n (a + k))) - (nI 48))]) (rest := []) (wc := oX6 T u (sa (sa (sc U 2 (nI (tV cd n a (U 1) (U 2) k).2.1)) 1 (tV cd n a (U 1) (U 2) k).1) 2 (tV cd n a (U 1) (U 2) k).2.2.1)) (wr := oX5 T qt X) (w1 := oX6 T u (sa (sc (sa (sa (sc U 2 (nI (tV cd n a (U 1) (U 2) k).2.1)) 1 (tV cd n a (U 1) (U 2) k).1) 2 (tV cd n a (U 1) (U 2) k).2.2.1) 2 (nI (pMn (tV cd n a (U 1) (U 2) k).2.1 (pAn (tV cd n a (U 1) (U 2) k).2.1 (nOf ((tV cd n a (U 1) (U 2) k).2.2.1 ((tV cd n a (U 1) (U 2) k).2.2.2 - 1))) ((nI (pAt cd n (a + k))) - (nI 48)))))) 1 (pRep ((sa (sa (sc U 2 (nI (tV cd n a (U 1) (U 2) k).2.1)) 1 (tV cd n a (U 1) (U 2) k).1) 2 (tV cd n a (U 1) (U 2) k).2.2.1) 1) (nOf ((tV cd n a (U 1) (U 2) k).2.2.1 ((tV cd n a (U 1) (U 2) k).2.2.2 - 1))) (tV cd n a (U 1) (U 2) k).2.1 (pAn (tV cd n a (U 1) (U 2) k).2.1 (nOf ((tV cd n a (U 1) (U 2) k).2.2.1 ((tV cd n a (U 1) (U 2) k).2.2.2 - 1))) ((nI (pAt cd n (a + k))) - (nI 48)))))) (d := 1) (mc := 0) (ms := 0) (isC := [0, 1, 2]) (isR := [3, 4]) cx (c_X6_repeatFrom l G T H.size u (sa (sa (sc U 2 (nI (tV cd n a (U 1) (U 2) k).2.1)) 1 (tV cd n a (U 1) (U 2) k).1) 2 (tV cd n a (U 1) (U 2) k).2.2.1) (nOf ((tV cd n a (U 1) (U 2) k).2.2.1 ((tV cd n a (U 1) (U 2) k).2.2.2 - 1))) ((nI (pAt cd n (a + k))) - (nI 48)) (tV cd n a (U 1) (U 2) k).2.1 (by first | assumption | rfl | omega) (by omega) (hgv _ (by omega)).2) (cwV 2 hts gX6_read_X6_repeatFrom rfl rfl rfl (by decide +kernel) ⟨Nat.le_of_ble_eq_true rfl, Nat.le_of_ble_eq_true rfl⟩) ⟨hP, hD, hS, hA, hE, hK, rfl, rfl, rfl, rfl, by decide⟩ (va_recv hK hP (ci := 6) (q0 := 0) rfl rfl) rfl hl.1 rfl (Nat.le_of_ble_eq_true rfl) dX6_read_106 ⟨Nat.le_of_ble_eq_true rfl, Nat.le_of_ble_eq_true rfl⟩ (fun H locs hP hD hS hz => ?_)
                have hP : va_P G vwCl [(u 0, .inr (6, [.ref (u 1), .ref (u 2), .int (nI (pMn (tV cd n a (U 1) (U 2) k).2.1 (pAn (tV cd n a (U 1) (U 2) k).2.1 (nOf ((tV cd n a (U 1) (U 2) k).2.2.1 ((tV cd n a (U 1) (U 2) k).2.2.2 - 1))) ((nI (pAt cd n (a + k))) - (nI 48)))))])), (u 1, .inl (T 0, 9, .inl (pRep ((tV cd n a (U 1) (U 2) k).1) (nOf ((tV cd n a (U 1) (U 2) k).2.2.1 ((tV cd n a (U 1) (U 2) k).2.2.2 - 1))) (tV cd n a (U 1) (U 2) k).2.1 (pAn (tV cd n a (U 1) (U 2) k).2.1 (nOf ((tV cd n a (U 1) (U 2) k).2.2.1 ((tV cd n a (U 1) (U 2) k).2.2.2 - 1))) ((nI (pAt cd n (a + k))) - (nI 48)))))), (u 2, .inl (T 0, 3, .inl (tV cd n a (U 1) (U 2) k).2.2.1)), (qt 0, .inr (5, [.ref (qt 1), .int (X 0 1)])), (qt 1, .inl (T 1, 60, .inl (X 1)))] H := kN.sub (is := [2, 3, 4, 0, 1]) hP rfl
                have hD : va_D A [(u 0, .inr (6, [.ref (u 1), .ref (u 2), .int (nI (pMn (tV cd n a (U 1) (U 2) k).2.1 (pAn (tV cd n a (U 1) (U 2) k).2.1 (nOf ((tV cd n a (U 1) (U 2) k).2.2.1 ((tV cd n a (U 1) (U 2) k).2.2.2 - 1))) ((nI (pAt cd n (a + k))) - (nI 48)))))])), (u 1, .inl (T 0, 9, .inl (pRep ((tV cd n a (U 1) (U 2) k).1) (nOf ((tV cd n a (U 1) (U 2) k).2.2.1 ((tV cd n a (U 1) (U 2) k).2.2.2 - 1))) (tV cd n a (U 1) (U 2) k).2.1 (pAn (tV cd n a (U 1) (U 2) k).2.1 (nOf ((tV cd n a (U 1) (U 2) k).2.2.1 ((tV cd n a (U 1) (U 2) k).2.2.2 - 1))) ((nI (pAt cd n (a + k))) - (nI 48)))))), (u 2, .inl (T 0, 3, .inl (tV cd n a (U 1) (U 2) k).2.2.1)), (qt 0, .inr (5, [.ref (qt 1), .int (X 0 1)])), (qt 1, .inl (T 1, 60, .inl (X 1)))] := hD.sub [2, 3, 4, 0, 1] rfl rfl
                refine lv_iinc (v := nI (a + k + 1)) (lv' := [(5, .int (nI (a + k + 1))), (4, .int (nI ((tV cd n a (U 1) (U 2) k).2.2.2 - 1))), (7, .int (pIx (pAt cd n (a + k)))), (6, .int (nI (pAt cd n (a + k)))), (0, .ref (u 0)), (1, .ref (qt 0)), (2, .int (nI a)), (3, .int (nI b))]) hx hb dX6_read_109 hl (k := 3) rfl (n_inc (a + k) 1 rfl) (by decide) rfl (fun ls hl => ?_)
                refine lv_goto (tgt := 11) hx hb dX6_read_112 (by decide) ?_
                have e_27 : (nI (a + k + 1)) = nI (a + (k + 1)) := rfl
                have e_28 : (nI ((tV cd n a (U 1) (U 2) k).2.2.2 - 1)) = nI (tV cd n a (U 1) (U 2) (k + 1)).2.2.2 := (by rw [tV_s]; first | (rw [tSt_1 (by assumption)]; done) | (rw [tSt_2 (by assumption) (by omega)]; done) | (rw [tSt_3 (by assumption) (by omega) (by omega)]; done) | (rw [tSt_4 (by assumption) (by omega) (by omega)]; done) | (rw [tSt_1 (by assumption)]; rfl) | (rw [tSt_2 (by assumption) (by omega)]; rfl) | (rw [tSt_3 (by assumption) (by omega) (by omega)]; rfl) | (rw [tSt_4 (by assumption) (by omega) (by omega)]; rfl))
                have e_29 : (pRep ((tV cd n a (U 1) (U 2) k).1) (nOf ((tV cd n a (U 1) (U 2) k).2.2.1 ((tV cd n a (U 1) (U 2) k).2.2.2 - 1))) (tV cd n a (U 1) (U 2) k).2.1 (pAn (tV cd n a (U 1) (U 2) k).2.1 (nOf ((tV cd n a (U 1) (U 2) k).2.2.1 ((tV cd n a (U 1) (U 2) k).2.2.2 - 1))) ((nI (pAt cd n (a + k))) - (nI 48)))) = (tV cd n a (U 1) (U 2) (k + 1)).1 := (by rw [tV_s]; first | (rw [tSt_1 (by assumption)]; done) | (rw [tSt_2 (by assumption) (by omega)]; done) | (rw [tSt_3 (by assumption) (by omega) (by omega)]; done) | (rw [tSt_4 (by assumption) (by omega) (by omega)]; done) | (rw [tSt_1 (by assumption)]; rfl) | (rw [tSt_2 (by assumption) (by omega)]; rfl) | (rw [tSt_3 (by assumption) (by omega) (by omega)]; rfl) | (rw [tSt_4 (by assumption) (by omega) (by omega)]; rfl))
                have e_30 : (nI (pMn (tV cd n a (U 1) (U 2) k).2.1 (pAn (tV cd n a (U 1) (U 2) k).2.1 (nOf ((tV cd n a (U 1) (U 2) k).2.2.1 ((tV cd n a (U 1) (U 2) k).2.2.2 - 1))) ((nI (pAt cd n (a + k))) - (nI 48))))) = nI (tV cd n a (U 1) (U 2) (k + 1)).2.1 := (by rw [tV_s]; first | (rw [tSt_1 (by assumption)]; done) | (rw [tSt_2 (by assumption) (by omega)]; done) | (rw [tSt_3 (by assumption) (by omega) (by omega)]; done) | (rw [tSt_4 (by assumption) (by omega) (by omega)]; done) | (rw [tSt_1 (by assumption)]; rfl) | (rw [tSt_2 (by assumption) (by omega)]; rfl) | (rw [tSt_3 (by assumption) (by omega) (by omega)]; rfl) | (rw [tSt_4 (by assumption) (by omega) (by omega)]; rfl))
                have e_31 : (tV cd n a (U 1) (U 2) k).2.2.1 = (tV cd n a (U 1) (U 2) (k + 1)).2.2.1 := (by rw [tV_s]; first | (rw [tSt_1 (by assumption)]; done) | (rw [tSt_2 (by assumption) (by omega)]; done) | (rw [tSt_3 (by assumption) (by omega) (by omega)]; done) | (rw [tSt_4 (by assumption) (by omega) (by omega)]; done) | (rw [tSt_1 (by assumption)]; rfl) | (rw [tSt_2 (by assumption) (by omega)]; rfl) | (rw [tSt_3 (by assumption) (by omega) (by omega)]; rfl) | (rw [tSt_4 (by assumption) (by omega) (by omega)]; rfl))
                exact ih11 (k + 1) (by omega) (by omega) _ _ _ _ _ e_27 e_28 e_29 e_30 e_31 _ _ hP hD hS _ (lv_sub hl [0, 1, 4, 5, 6, 7] rfl)
          · skip
            refine lv_iload hx hb dX6_read_55 (lv_at hl 3 rfl) ?_
            refine n_iconst hx hb 3 dX6_read_57 (by decide) ?_
            refine n_icmp_ge (a := (tV cd n a (U 1) (U 2) k).2.2.2) (b := 3) (tgt := 78) hx hb (by omega) (by decide) dX6_read_58 (by decide) (fun c_32 => ?_) (fun c_33 => ?_)
            · skip
              refine lv_iload hx hb dX6_read_78 (lv_at hl 1 rfl) ?_
              refine lv_bipush (v := nI 41) hx hb dX6_read_80 (by decide) ?_
              refine n_icmp_eq (a := pAt cd n (a + k)) (b := 41) (tgt := 109) hx hb (by omega) (by decide) dX6_read_82 (by decide) (fun c_34 => ?_) (fun c_35 => ?_)
              · skip
                refine lv_iinc (v := nI (a + k + 1)) (lv' := [(5, .int (nI (a + k + 1))), (7, .int (pIx (pAt cd n (a + k)))), (6, .int (nI (pAt cd n (a + k)))), (4, .int (nI (tV cd n a (U 1) (U 2) k).2.2.2)), (0, .ref (u 0)), (1, .ref (qt 0)), (2, .int (nI a)), (3, .int (nI b))]) hx hb dX6_read_109 hl (k := 2) rfl (n_inc (a + k) 1 rfl) (by decide) rfl (fun ls hl => ?_)
                refine lv_goto (tgt := 11) hx hb dX6_read_112 (by decide) ?_
                have e_36 : (nI (a + k + 1)) = nI (a + (k + 1)) := rfl
                have e_37 : (nI (tV cd n a (U 1) (U 2) k).2.2.2) = nI (tV cd n a (U 1) (U 2) (k + 1)).2.2.2 := (by rw [tV_s]; first | (rw [tSt_1 (by assumption)]; done) | (rw [tSt_2 (by assumption) (by omega)]; done) | (rw [tSt_3 (by assumption) (by omega) (by omega)]; done) | (rw [tSt_4 (by assumption) (by omega) (by omega)]; done) | (rw [tSt_1 (by assumption)]; rfl) | (rw [tSt_2 (by assumption) (by omega)]; rfl) | (rw [tSt_3 (by assumption) (by omega) (by omega)]; rfl) | (rw [tSt_4 (by assumption) (by omega) (by omega)]; rfl))
                have e_38 : (tV cd n a (U 1) (U 2) k).1 = (tV cd n a (U 1) (U 2) (k + 1)).1 := (by rw [tV_s]; first | (rw [tSt_1 (by assumption)]; done) | (rw [tSt_2 (by assumption) (by omega)]; done) | (rw [tSt_3 (by assumption) (by omega) (by omega)]; done) | (rw [tSt_4 (by assumption) (by omega) (by omega)]; done) | (rw [tSt_1 (by assumption)]; rfl) | (rw [tSt_2 (by assumption) (by omega)]; rfl) | (rw [tSt_3 (by assumption) (by omega) (by omega)]; rfl) | (rw [tSt_4 (by assumption) (by omega) (by omega)]; rfl))
                have e_39 : (nI (tV cd n a (U 1) (U 2) k).2.1) = nI (tV cd n a (U 1) (U 2) (k + 1)).2.1 := (by rw [tV_s]; first | (rw [tSt_1 (by assumption)]; done) | (rw [tSt_2 (by assumption) (by omega)]; done) | (rw [tSt_3 (by assumption) (by omega) (by omega)]; done) | (rw [tSt_4 (by assumption) (by omega) (by omega)]; done) | (rw [tSt_1 (by assumption)]; rfl) | (rw [tSt_2 (by assumption) (by omega)]; rfl) | (rw [tSt_3 (by assumption) (by omega) (by omega)]; rfl) | (rw [tSt_4 (by assumption) (by omega) (by omega)]; rfl))
                have e_40 : (tV cd n a (U 1) (U 2) k).2.2.1 = (tV cd n a (U 1) (U 2) (k + 1)).2.2.1 := (by rw [tV_s]; first | (rw [tSt_1 (by assumption)]; done) | (rw [tSt_2 (by assumption) (by omega)]; done) | (rw [tSt_3 (by assumption) (by omega) (by omega)]; done) | (rw [tSt_4 (by assumption) (by omega) (by omega)]; done) | (rw [tSt_1 (by assumption)]; rfl) | (rw [tSt_2 (by assumption) (by omega)]; rfl) | (rw [tSt_3 (by assumption) (by omega) (by omega)]; rfl) | (rw [tSt_4 (by assumption) (by omega) (by omega)]; rfl))
                exact ih11 (k + 1) (by omega) (by omega) _ _ _ _ _ e_36 e_37 e_38 e_39 e_40 _ _ hP hD hS _ (lv_sub hl [0, 3, 4, 5, 6, 7] rfl)
              · skip
                refine lv_iload hx hb dX6_read_85 (lv_at hl 3 rfl) ?_
                refine n_if_le (a := (tV cd n a (U 1) (U 2) k).2.2.2) (tgt := 109) hx hb (by omega) dX6_read_87 (by decide) (fun c_41 => ?_) (fun c_42 => ?_)
                · skip
                  refine lv_iinc (v := nI (a + k + 1)) (lv' := [(5, .int (nI (a + k + 1))), (7, .int (pIx (pAt cd n (a + k)))), (6, .int (nI (pAt cd n (a + k)))), (4, .int (nI (tV cd n a (U 1) (U 2) k).2.2.2)), (0, .ref (u 0)), (1, .ref (qt 0)), (2, .int (nI a)), (3, .int (nI b))]) hx hb dX6_read_109 hl (k := 2) rfl (n_inc (a + k) 1 rfl) (by decide) rfl (fun ls hl => ?_)
                  refine lv_goto (tgt := 11) hx hb dX6_read_112 (by decide) ?_
                  have e_43 : (nI (a + k + 1)) = nI (a + (k + 1)) := rfl
                  have e_44 : (nI (tV cd n a (U 1) (U 2) k).2.2.2) = nI (tV cd n a (U 1) (U 2) (k + 1)).2.2.2 := (by rw [tV_s]; first | (rw [tSt_1 (by assumption)]; done) | (rw [tSt_2 (by assumption) (by omega)]; done) | (rw [tSt_3 (by assumption) (by omega) (by omega)]; done) | (rw [tSt_4 (by assumption) (by omega) (by omega)]; done) | (rw [tSt_1 (by assumption)]; rfl) | (rw [tSt_2 (by assumption) (by omega)]; rfl) | (rw [tSt_3 (by assumption) (by omega) (by omega)]; rfl) | (rw [tSt_4 (by assumption) (by omega) (by omega)]; rfl))
                  have e_45 : (tV cd n a (U 1) (U 2) k).1 = (tV cd n a (U 1) (U 2) (k + 1)).1 := (by rw [tV_s]; first | (rw [tSt_1 (by assumption)]; done) | (rw [tSt_2 (by assumption) (by omega)]; done) | (rw [tSt_3 (by assumption) (by omega) (by omega)]; done) | (rw [tSt_4 (by assumption) (by omega) (by omega)]; done) | (rw [tSt_1 (by assumption)]; rfl) | (rw [tSt_2 (by assumption) (by omega)]; rfl) | (rw [tSt_3 (by assumption) (by omega) (by omega)]; rfl) | (rw [tSt_4 (by assumption) (by omega) (by omega)]; rfl))
                  have e_46 : (nI (tV cd n a (U 1) (U 2) k).2.1) = nI (tV cd n a (U 1) (U 2) (k + 1)).2.1 := (by rw [tV_s]; first | (rw [tSt_1 (by assumption)]; done) | (rw [tSt_2 (by assumption) (by omega)]; done) | (rw [tSt_3 (by assumption) (by omega) (by omega)]; done) | (rw [tSt_4 (by assumption) (by omega) (by omega)]; done) | (rw [tSt_1 (by assumption)]; rfl) | (rw [tSt_2 (by assumption) (by omega)]; rfl) | (rw [tSt_3 (by assumption) (by omega) (by omega)]; rfl) | (rw [tSt_4 (by assumption) (by omega) (by omega)]; rfl))
                  have e_47 : (tV cd n a (U 1) (U 2) k).2.2.1 = (tV cd n a (U 1) (U 2) (k + 1)).2.2.1 := (by rw [tV_s]; first | (rw [tSt_1 (by assumption)]; done) | (rw [tSt_2 (by assumption) (by omega)]; done) | (rw [tSt_3 (by assumption) (by omega) (by omega)]; done) | (rw [tSt_4 (by assumption) (by omega) (by omega)]; done) | (rw [tSt_1 (by assumption)]; rfl) | (rw [tSt_2 (by assumption) (by omega)]; rfl) | (rw [tSt_3 (by assumption) (by omega) (by omega)]; rfl) | (rw [tSt_4 (by assumption) (by omega) (by omega)]; rfl))
                  exact ih11 (k + 1) (by omega) (by omega) _ _ _ _ _ e_43 e_44 e_45 e_46 e_47 _ _ hP hD hS _ (lv_sub hl [0, 3, 4, 5, 6, 7] rfl)
                · skip
                  refine lv_iinc (v := nI ((tV cd n a (U 1) (U 2) k).2.2.2 - 1)) (lv' := [(4, .int (nI ((tV cd n a (U 1) (U 2) k).2.2.2 - 1))), (7, .int (pIx (pAt cd n (a + k)))), (6, .int (nI (pAt cd n (a + k)))), (5, .int (nI (a + k))), (0, .ref (u 0)), (1, .ref (qt 0)), (2, .int (nI a)), (3, .int (nI b))]) hx hb dX6_read_90 hl (k := 3) rfl (n_dec (by omega)) (by decide) rfl (fun ls hl => ?_)
                  refine lv_aload_n hx hb dX6_read_93 rfl (lv_at hl 4 rfl) ?_
                  refine lv_aload_n hx hb dX6_read_94 rfl (lv_at hl 4 rfl) ?_
                  refine va_get (D := G) (ci := 6) (v := .ref (u 2)) (C := RX6) (T := TX6) (N := 3) hx hb hts hinX6 hown hK hP 0 rfl rfl 1 (by decide) lk15 (fun _ h9 => h9) rfl dX6_read_95 ?_
                  refine lv_iload hx hb dX6_read_98 (lv_at hl 0 rfl) ?_
                  refine n_iald hx hb hK hP 2 0 rfl rfl ((tV cd n a (U 1) (U 2) k).2.2.2 - 1) (by omega) (by decide) dX6_read_100 ?_
                  refine n_top (y := nI (nOf ((tV cd n a (U 1) (U 2) k).2.2.1 ((tV cd n a (U 1) (U 2) k).2.2.2 - 1)))) (hgv _ (by omega)).1 ?_
                  refine lv_iload hx hb dX6_read_101 (lv_at hl 2 rfl) ?_
                  refine lv_bipush (v := nI 48) hx hb dX6_read_103 (by decide) ?_
                  refine lv_isub hx hb dX6_read_105 ?_
                  refine k_rvV (As := [.int (nI (nOf ((tV cd n a (U 1) (U 2) k).2.2.1 ((tV cd n a (U 1) (U 2) k).2.2.2 - 1)))), .int ((nI (pAt cd n (a + k))) - (nI 48))]) (rest := []) (wc := oX6 T u (sa (sa (sc U 2 (nI (tV cd n a (U 1) (U 2) k).2.1)) 1 (tV cd n a (U 1) (U 2) k).1) 2 (tV cd n a (U 1) (U 2) k).2.2.1)) (wr := oX5 T qt X) (w1 := oX6 T u (sa (sc (sa (sa (sc U 2 (nI (tV cd n a (U 1) (U 2) k).2.1)) 1 (tV cd n a (U 1) (U 2) k).1) 2 (tV cd n a (U 1) (U 2) k).2.2.1) 2 (nI (pMn (tV cd n a (U 1) (U 2) k).2.1 (pAn (tV cd n a (U 1) (U 2) k).2.1 (nOf ((tV cd n a (U 1) (U 2) k).2.2.1 ((tV cd n a (U 1) (U 2) k).2.2.2 - 1))) ((nI (pAt cd n (a + k))) - (nI 48)))))) 1 (pRep ((sa (sa (sc U 2 (nI (tV cd n a (U 1) (U 2) k).2.1)) 1 (tV cd n a (U 1) (U 2) k).1) 2 (tV cd n a (U 1) (U 2) k).2.2.1) 1) (nOf ((tV cd n a (U 1) (U 2) k).2.2.1 ((tV cd n a (U 1) (U 2) k).2.2.2 - 1))) (tV cd n a (U 1) (U 2) k).2.1 (pAn (tV cd n a (U 1) (U 2) k).2.1 (nOf ((tV cd n a (U 1) (U 2) k).2.2.1 ((tV cd n a (U 1) (U 2) k).2.2.2 - 1))) ((nI (pAt cd n (a + k))) - (nI 48)))))) (d := 1) (mc := 0) (ms := 0) (isC := [0, 1, 2]) (isR := [3, 4]) cx (c_X6_repeatFrom l G T H.size u (sa (sa (sc U 2 (nI (tV cd n a (U 1) (U 2) k).2.1)) 1 (tV cd n a (U 1) (U 2) k).1) 2 (tV cd n a (U 1) (U 2) k).2.2.1) (nOf ((tV cd n a (U 1) (U 2) k).2.2.1 ((tV cd n a (U 1) (U 2) k).2.2.2 - 1))) ((nI (pAt cd n (a + k))) - (nI 48)) (tV cd n a (U 1) (U 2) k).2.1 (by first | assumption | rfl | omega) (by omega) (hgv _ (by omega)).2) (cwV 2 hts gX6_read_X6_repeatFrom rfl rfl rfl (by decide +kernel) ⟨Nat.le_of_ble_eq_true rfl, Nat.le_of_ble_eq_true rfl⟩) ⟨hP, hD, hS, hA, hE, hK, rfl, rfl, rfl, rfl, by decide⟩ (va_recv hK hP (ci := 6) (q0 := 0) rfl rfl) rfl hl.1 rfl (Nat.le_of_ble_eq_true rfl) dX6_read_106 ⟨Nat.le_of_ble_eq_true rfl, Nat.le_of_ble_eq_true rfl⟩ (fun H locs hP hD hS hz => ?_)
                  have hP : va_P G vwCl [(u 0, .inr (6, [.ref (u 1), .ref (u 2), .int (nI (pMn (tV cd n a (U 1) (U 2) k).2.1 (pAn (tV cd n a (U 1) (U 2) k).2.1 (nOf ((tV cd n a (U 1) (U 2) k).2.2.1 ((tV cd n a (U 1) (U 2) k).2.2.2 - 1))) ((nI (pAt cd n (a + k))) - (nI 48)))))])), (u 1, .inl (T 0, 9, .inl (pRep ((tV cd n a (U 1) (U 2) k).1) (nOf ((tV cd n a (U 1) (U 2) k).2.2.1 ((tV cd n a (U 1) (U 2) k).2.2.2 - 1))) (tV cd n a (U 1) (U 2) k).2.1 (pAn (tV cd n a (U 1) (U 2) k).2.1 (nOf ((tV cd n a (U 1) (U 2) k).2.2.1 ((tV cd n a (U 1) (U 2) k).2.2.2 - 1))) ((nI (pAt cd n (a + k))) - (nI 48)))))), (u 2, .inl (T 0, 3, .inl (tV cd n a (U 1) (U 2) k).2.2.1)), (qt 0, .inr (5, [.ref (qt 1), .int (X 0 1)])), (qt 1, .inl (T 1, 60, .inl (X 1)))] H := kN.sub (is := [2, 3, 4, 0, 1]) hP rfl
                  have hD : va_D A [(u 0, .inr (6, [.ref (u 1), .ref (u 2), .int (nI (pMn (tV cd n a (U 1) (U 2) k).2.1 (pAn (tV cd n a (U 1) (U 2) k).2.1 (nOf ((tV cd n a (U 1) (U 2) k).2.2.1 ((tV cd n a (U 1) (U 2) k).2.2.2 - 1))) ((nI (pAt cd n (a + k))) - (nI 48)))))])), (u 1, .inl (T 0, 9, .inl (pRep ((tV cd n a (U 1) (U 2) k).1) (nOf ((tV cd n a (U 1) (U 2) k).2.2.1 ((tV cd n a (U 1) (U 2) k).2.2.2 - 1))) (tV cd n a (U 1) (U 2) k).2.1 (pAn (tV cd n a (U 1) (U 2) k).2.1 (nOf ((tV cd n a (U 1) (U 2) k).2.2.1 ((tV cd n a (U 1) (U 2) k).2.2.2 - 1))) ((nI (pAt cd n (a + k))) - (nI 48)))))), (u 2, .inl (T 0, 3, .inl (tV cd n a (U 1) (U 2) k).2.2.1)), (qt 0, .inr (5, [.ref (qt 1), .int (X 0 1)])), (qt 1, .inl (T 1, 60, .inl (X 1)))] := hD.sub [2, 3, 4, 0, 1] rfl rfl
                  refine lv_iinc (v := nI (a + k + 1)) (lv' := [(5, .int (nI (a + k + 1))), (4, .int (nI ((tV cd n a (U 1) (U 2) k).2.2.2 - 1))), (7, .int (pIx (pAt cd n (a + k)))), (6, .int (nI (pAt cd n (a + k)))), (0, .ref (u 0)), (1, .ref (qt 0)), (2, .int (nI a)), (3, .int (nI b))]) hx hb dX6_read_109 hl (k := 3) rfl (n_inc (a + k) 1 rfl) (by decide) rfl (fun ls hl => ?_)
                  refine lv_goto (tgt := 11) hx hb dX6_read_112 (by decide) ?_
                  have e_48 : (nI (a + k + 1)) = nI (a + (k + 1)) := rfl
                  have e_49 : (nI ((tV cd n a (U 1) (U 2) k).2.2.2 - 1)) = nI (tV cd n a (U 1) (U 2) (k + 1)).2.2.2 := (by rw [tV_s]; first | (rw [tSt_1 (by assumption)]; done) | (rw [tSt_2 (by assumption) (by omega)]; done) | (rw [tSt_3 (by assumption) (by omega) (by omega)]; done) | (rw [tSt_4 (by assumption) (by omega) (by omega)]; done) | (rw [tSt_1 (by assumption)]; rfl) | (rw [tSt_2 (by assumption) (by omega)]; rfl) | (rw [tSt_3 (by assumption) (by omega) (by omega)]; rfl) | (rw [tSt_4 (by assumption) (by omega) (by omega)]; rfl))
                  have e_50 : (pRep ((tV cd n a (U 1) (U 2) k).1) (nOf ((tV cd n a (U 1) (U 2) k).2.2.1 ((tV cd n a (U 1) (U 2) k).2.2.2 - 1))) (tV cd n a (U 1) (U 2) k).2.1 (pAn (tV cd n a (U 1) (U 2) k).2.1 (nOf ((tV cd n a (U 1) (U 2) k).2.2.1 ((tV cd n a (U 1) (U 2) k).2.2.2 - 1))) ((nI (pAt cd n (a + k))) - (nI 48)))) = (tV cd n a (U 1) (U 2) (k + 1)).1 := (by rw [tV_s]; first | (rw [tSt_1 (by assumption)]; done) | (rw [tSt_2 (by assumption) (by omega)]; done) | (rw [tSt_3 (by assumption) (by omega) (by omega)]; done) | (rw [tSt_4 (by assumption) (by omega) (by omega)]; done) | (rw [tSt_1 (by assumption)]; rfl) | (rw [tSt_2 (by assumption) (by omega)]; rfl) | (rw [tSt_3 (by assumption) (by omega) (by omega)]; rfl) | (rw [tSt_4 (by assumption) (by omega) (by omega)]; rfl))
                  have e_51 : (nI (pMn (tV cd n a (U 1) (U 2) k).2.1 (pAn (tV cd n a (U 1) (U 2) k).2.1 (nOf ((tV cd n a (U 1) (U 2) k).2.2.1 ((tV cd n a (U 1) (U 2) k).2.2.2 - 1))) ((nI (pAt cd n (a + k))) - (nI 48))))) = nI (tV cd n a (U 1) (U 2) (k + 1)).2.1 := (by rw [tV_s]; first | (rw [tSt_1 (by assumption)]; done) | (rw [tSt_2 (by assumption) (by omega)]; done) | (rw [tSt_3 (by assumption) (by omega) (by omega)]; done) | (rw [tSt_4 (by assumption) (by omega) (by omega)]; done) | (rw [tSt_1 (by assumption)]; rfl) | (rw [tSt_2 (by assumption) (by omega)]; rfl) | (rw [tSt_3 (by assumption) (by omega) (by omega)]; rfl) | (rw [tSt_4 (by assumption) (by omega) (by omega)]; rfl))
                  have e_52 : (tV cd n a (U 1) (U 2) k).2.2.1 = (tV cd n a (U 1) (U 2) (k + 1)).2.2.1 := (by rw [tV_s]; first | (rw [tSt_1 (by assumption)]; done) | (rw [tSt_2 (by assumption) (by omega)]; done) | (rw [tSt_3 (by assumption) (by omega) (by omega)]; done) | (rw [tSt_4 (by assumption) (by omega) (by omega)]; done) | (rw [tSt_1 (by assumption)]; rfl) | (rw [tSt_2 (by assumption) (by omega)]; rfl) | (rw [tSt_3 (by assumption) (by omega) (by omega)]; rfl) | (rw [tSt_4 (by assumption) (by omega) (by omega)]; rfl))
                  exact ih11 (k + 1) (by omega) (by omega) _ _ _ _ _ e_48 e_49 e_50 e_51 e_52 _ _ hP hD hS _ (lv_sub hl [0, 1, 4, 5, 6, 7] rfl)
            · skip
              refine lv_aload_n hx hb dX6_read_61 rfl (lv_at hl 4 rfl) ?_
              refine va_get (D := G) (ci := 6) (v := .ref (u 2)) (C := RX6) (T := TX6) (N := 3) hx hb hts hinX6 hown hK hP 0 rfl rfl 1 (by decide) lk15 (fun _ h9 => h9) rfl dX6_read_62 ?_
              refine lv_iload hx hb dX6_read_65 (lv_at hl 3 rfl) ?_
              refine lv_aload_n hx hb dX6_read_67 rfl (lv_at hl 4 rfl) ?_
              refine va_get (D := G) (ci := 6) (v := .int (nI (tV cd n a (U 1) (U 2) k).2.1)) (C := RX6) (T := TX6) (N := 3) hx hb hts hinX6 hown hK hP 0 rfl rfl 2 (by decide) lk18 (fun _ h9 => h9) rfl dX6_read_68 ?_
              refine n_iast hx hb hK hP hD hS 2 0 rfl rfl (tV cd n a (U 1) (U 2) k).2.2.2 (by omega) (by decide) dX6_read_71 (fun H locs hP hD hS => ?_)
              have hP : va_P G vwCl [(u 0, .inr (6, [.ref (u 1), .ref (u 2), .int (nI (tV cd n a (U 1) (U 2) k).2.1)])), (u 1, .inl (T 0, 9, .inl (tV cd n a (U 1) (U 2) k).1)), (u 2, .inl (T 0, 3, .inl (upd (tV cd n a (U 1) (U 2) k).2.2.1 (tV cd n a (U 1) (U 2) k).2.2.2 (nI (tV cd n a (U 1) (U 2) k).2.1)))), (qt 0, .inr (5, [.ref (qt 1), .int (X 0 1)])), (qt 1, .inl (T 1, 60, .inl (X 1)))] H := hP
              have hD : va_D A [(u 0, .inr (6, [.ref (u 1), .ref (u 2), .int (nI (tV cd n a (U 1) (U 2) k).2.1)])), (u 1, .inl (T 0, 9, .inl (tV cd n a (U 1) (U 2) k).1)), (u 2, .inl (T 0, 3, .inl (upd (tV cd n a (U 1) (U 2) k).2.2.1 (tV cd n a (U 1) (U 2) k).2.2.2 (nI (tV cd n a (U 1) (U 2) k).2.1)))), (qt 0, .inr (5, [.ref (qt 1), .int (X 0 1)])), (qt 1, .inl (T 1, 60, .inl (X 1)))] := hD
              refine lv_iinc (v := nI ((tV cd n a (U 1) (U 2) k).2.2.2 + 1)) (lv' := [(4, .int (nI ((tV cd n a (U 1) (U 2) k).2.2.2 + 1))), (7, .int (pIx (pAt cd n (a + k)))), (6, .int (nI (pAt cd n (a + k)))), (5, .int (nI (a + k))), (0, .ref (u 0)), (1, .ref (qt 0)), (2, .int (nI a)), (3, .int (nI b))]) hx hb dX6_read_72 hl (k := 3) rfl (n_inc (tV cd n a (U 1) (U 2) k).2.2.2 1 rfl) (by decide) rfl (fun ls hl => ?_)
              refine lv_goto (tgt := 109) hx hb dX6_read_75 (by decide) ?_
              refine lv_iinc (v := nI (a + k + 1)) (lv' := [(5, .int (nI (a + k + 1))), (4, .int (nI ((tV cd n a (U 1) (U 2) k).2.2.2 + 1))), (7, .int (pIx (pAt cd n (a + k)))), (6, .int (nI (pAt cd n (a + k)))), (0, .ref (u 0)), (1, .ref (qt 0)), (2, .int (nI a)), (3, .int (nI b))]) hx hb dX6_read_109 hl (k := 3) rfl (n_inc (a + k) 1 rfl) (by decide) rfl (fun ls hl => ?_)
              refine lv_goto (tgt := 11) hx hb dX6_read_112 (by decide) ?_
              have e_53 : (nI (a + k + 1)) = nI (a + (k + 1)) := rfl
              have e_54 : (nI ((tV cd n a (U 1) (U 2) k).2.2.2 + 1)) = nI (tV cd n a (U 1) (U 2) (k + 1)).2.2.2 := (by rw [tV_s]; first | (rw [tSt_1 (by assumption)]; done) | (rw [tSt_2 (by assumption) (by omega)]; done) | (rw [tSt_3 (by assumption) (by omega) (by omega)]; done) | (rw [tSt_4 (by assumption) (by omega) (by omega)]; done) | (rw [tSt_1 (by assumption)]; rfl) | (rw [tSt_2 (by assumption) (by omega)]; rfl) | (rw [tSt_3 (by assumption) (by omega) (by omega)]; rfl) | (rw [tSt_4 (by assumption) (by omega) (by omega)]; rfl))
              have e_55 : (tV cd n a (U 1) (U 2) k).1 = (tV cd n a (U 1) (U 2) (k + 1)).1 := (by rw [tV_s]; first | (rw [tSt_1 (by assumption)]; done) | (rw [tSt_2 (by assumption) (by omega)]; done) | (rw [tSt_3 (by assumption) (by omega) (by omega)]; done) | (rw [tSt_4 (by assumption) (by omega) (by omega)]; done) | (rw [tSt_1 (by assumption)]; rfl) | (rw [tSt_2 (by assumption) (by omega)]; rfl) | (rw [tSt_3 (by assumption) (by omega) (by omega)]; rfl) | (rw [tSt_4 (by assumption) (by omega) (by omega)]; rfl))
              have e_56 : (nI (tV cd n a (U 1) (U 2) k).2.1) = nI (tV cd n a (U 1) (U 2) (k + 1)).2.1 := (by rw [tV_s]; first | (rw [tSt_1 (by assumption)]; done) | (rw [tSt_2 (by assumption) (by omega)]; done) | (rw [tSt_3 (by assumption) (by omega) (by omega)]; done) | (rw [tSt_4 (by assumption) (by omega) (by omega)]; done) | (rw [tSt_1 (by assumption)]; rfl) | (rw [tSt_2 (by assumption) (by omega)]; rfl) | (rw [tSt_3 (by assumption) (by omega) (by omega)]; rfl) | (rw [tSt_4 (by assumption) (by omega) (by omega)]; rfl))
              have e_57 : (upd (tV cd n a (U 1) (U 2) k).2.2.1 (tV cd n a (U 1) (U 2) k).2.2.2 (nI (tV cd n a (U 1) (U 2) k).2.1)) = (tV cd n a (U 1) (U 2) (k + 1)).2.2.1 := (by rw [tV_s]; first | (rw [tSt_1 (by assumption)]; done) | (rw [tSt_2 (by assumption) (by omega)]; done) | (rw [tSt_3 (by assumption) (by omega) (by omega)]; done) | (rw [tSt_4 (by assumption) (by omega) (by omega)]; done) | (rw [tSt_1 (by assumption)]; rfl) | (rw [tSt_2 (by assumption) (by omega)]; rfl) | (rw [tSt_3 (by assumption) (by omega) (by omega)]; rfl) | (rw [tSt_4 (by assumption) (by omega) (by omega)]; rfl))
              exact ih11 (k + 1) (by omega) (by omega) _ _ _ _ _ e_53 e_54 e_55 e_56 e_57 _ _ hP hD hS _ (lv_sub hl [0, 1, 4, 5, 6, 7] rfl)
        · skip
          refine lv_aload_n hx hb dX6_read_39 rfl (lv_at hl 4 rfl) ?_
          refine lv_iload hx hb dX6_read_40 (lv_at hl 0 rfl) ?_
          refine k_rvV (As := [.int (pIx (pAt cd n (a + k)))]) (rest := []) (wc := oX6 T u (sa (sa (sc U 2 (nI (tV cd n a (U 1) (U 2) k).2.1)) 1 (tV cd n a (U 1) (U 2) k).1) 2 (tV cd n a (U 1) (U 2) k).2.2.1)) (wr := oX5 T qt X) (w1 := oX6 T u (sa (sc (sa (sa (sc U 2 (nI (tV cd n a (U 1) (U 2) k).2.1)) 1 (tV cd n a (U 1) (U 2) k).1) 2 (tV cd n a (U 1) (U 2) k).2.2.1) 2 (nI (pMin9 ((tV cd n a (U 1) (U 2) k).2.1 + 1)))) 1 (if (tV cd n a (U 1) (U 2) k).2.1 < 9 then upd ((sa (sa (sc U 2 (nI (tV cd n a (U 1) (U 2) k).2.1)) 1 (tV cd n a (U 1) (U 2) k).1) 2 (tV cd n a (U 1) (U 2) k).2.2.1) 1) (tV cd n a (U 1) (U 2) k).2.1 (pIx (pAt cd n (a + k))) else (sa (sa (sc U 2 (nI (tV cd n a (U 1) (U 2) k).2.1)) 1 (tV cd n a (U 1) (U 2) k).1) 2 (tV cd n a (U 1) (U 2) k).2.2.1) 1))) (d := 0) (mc := 0) (ms := 0) (isC := [0, 1, 2]) (isR := [3, 4]) cx (c_X6_add l G T H.size u (sa (sa (sc U 2 (nI (tV cd n a (U 1) (U 2) k).2.1)) 1 (tV cd n a (U 1) (U 2) k).1) 2 (tV cd n a (U 1) (U 2) k).2.2.1) (pIx (pAt cd n (a + k))) (tV cd n a (U 1) (U 2) k).2.1 (by first | assumption | rfl | omega) (by omega)) (cwV 1 hts gX6_read_X6_add rfl rfl rfl (by decide +kernel) ⟨Nat.le_of_ble_eq_true rfl, Nat.le_of_ble_eq_true rfl⟩) ⟨hP, hD, hS, hA, hE, hK, rfl, rfl, rfl, rfl, by decide⟩ (va_recv hK hP (ci := 6) (q0 := 0) rfl rfl) rfl hl.1 rfl (Nat.le_of_ble_eq_true rfl) dX6_read_42 ⟨Nat.le_of_ble_eq_true rfl, Nat.le_of_ble_eq_true rfl⟩ (fun H locs hP hD hS hz => ?_)
          have hP : va_P G vwCl [(u 0, .inr (6, [.ref (u 1), .ref (u 2), .int (nI (pMin9 ((tV cd n a (U 1) (U 2) k).2.1 + 1)))])), (u 1, .inl (T 0, 9, .inl (if (tV cd n a (U 1) (U 2) k).2.1 < 9 then upd ((tV cd n a (U 1) (U 2) k).1) (tV cd n a (U 1) (U 2) k).2.1 (pIx (pAt cd n (a + k))) else (tV cd n a (U 1) (U 2) k).1))), (u 2, .inl (T 0, 3, .inl (tV cd n a (U 1) (U 2) k).2.2.1)), (qt 0, .inr (5, [.ref (qt 1), .int (X 0 1)])), (qt 1, .inl (T 1, 60, .inl (X 1)))] H := kN.sub (is := [2, 3, 4, 0, 1]) hP rfl
          have hD : va_D A [(u 0, .inr (6, [.ref (u 1), .ref (u 2), .int (nI (pMin9 ((tV cd n a (U 1) (U 2) k).2.1 + 1)))])), (u 1, .inl (T 0, 9, .inl (if (tV cd n a (U 1) (U 2) k).2.1 < 9 then upd ((tV cd n a (U 1) (U 2) k).1) (tV cd n a (U 1) (U 2) k).2.1 (pIx (pAt cd n (a + k))) else (tV cd n a (U 1) (U 2) k).1))), (u 2, .inl (T 0, 3, .inl (tV cd n a (U 1) (U 2) k).2.2.1)), (qt 0, .inr (5, [.ref (qt 1), .int (X 0 1)])), (qt 1, .inl (T 1, 60, .inl (X 1)))] := hD.sub [2, 3, 4, 0, 1] rfl rfl
          refine lv_goto (tgt := 109) hx hb dX6_read_45 (by decide) ?_
          refine lv_iinc (v := nI (a + k + 1)) (lv' := [(5, .int (nI (a + k + 1))), (7, .int (pIx (pAt cd n (a + k)))), (6, .int (nI (pAt cd n (a + k)))), (4, .int (nI (tV cd n a (U 1) (U 2) k).2.2.2)), (0, .ref (u 0)), (1, .ref (qt 0)), (2, .int (nI a)), (3, .int (nI b))]) hx hb dX6_read_109 hl (k := 2) rfl (n_inc (a + k) 1 rfl) (by decide) rfl (fun ls hl => ?_)
          refine lv_goto (tgt := 11) hx hb dX6_read_112 (by decide) ?_
          have e_58 : (nI (a + k + 1)) = nI (a + (k + 1)) := rfl
          have e_59 : (nI (tV cd n a (U 1) (U 2) k).2.2.2) = nI (tV cd n a (U 1) (U 2) (k + 1)).2.2.2 := (by rw [tV_s]; first | (rw [tSt_1 (by assumption)]; done) | (rw [tSt_2 (by assumption) (by omega)]; done) | (rw [tSt_3 (by assumption) (by omega) (by omega)]; done) | (rw [tSt_4 (by assumption) (by omega) (by omega)]; done) | (rw [tSt_1 (by assumption)]; rfl) | (rw [tSt_2 (by assumption) (by omega)]; rfl) | (rw [tSt_3 (by assumption) (by omega) (by omega)]; rfl) | (rw [tSt_4 (by assumption) (by omega) (by omega)]; rfl))
          have e_60 : (if (tV cd n a (U 1) (U 2) k).2.1 < 9 then upd ((tV cd n a (U 1) (U 2) k).1) (tV cd n a (U 1) (U 2) k).2.1 (pIx (pAt cd n (a + k))) else (tV cd n a (U 1) (U 2) k).1) = (tV cd n a (U 1) (U 2) (k + 1)).1 := (by rw [tV_s]; first | (rw [tSt_1 (by assumption)]; done) | (rw [tSt_2 (by assumption) (by omega)]; done) | (rw [tSt_3 (by assumption) (by omega) (by omega)]; done) | (rw [tSt_4 (by assumption) (by omega) (by omega)]; done) | (rw [tSt_1 (by assumption)]; rfl) | (rw [tSt_2 (by assumption) (by omega)]; rfl) | (rw [tSt_3 (by assumption) (by omega) (by omega)]; rfl) | (rw [tSt_4 (by assumption) (by omega) (by omega)]; rfl))
          have e_61 : (nI (pMin9 ((tV cd n a (U 1) (U 2) k).2.1 + 1))) = nI (tV cd n a (U 1) (U 2) (k + 1)).2.1 := (by rw [tV_s]; first | (rw [tSt_1 (by assumption)]; done) | (rw [tSt_2 (by assumption) (by omega)]; done) | (rw [tSt_3 (by assumption) (by omega) (by omega)]; done) | (rw [tSt_4 (by assumption) (by omega) (by omega)]; done) | (rw [tSt_1 (by assumption)]; rfl) | (rw [tSt_2 (by assumption) (by omega)]; rfl) | (rw [tSt_3 (by assumption) (by omega) (by omega)]; rfl) | (rw [tSt_4 (by assumption) (by omega) (by omega)]; rfl))
          have e_62 : (tV cd n a (U 1) (U 2) k).2.2.1 = (tV cd n a (U 1) (U 2) (k + 1)).2.2.1 := (by rw [tV_s]; first | (rw [tSt_1 (by assumption)]; done) | (rw [tSt_2 (by assumption) (by omega)]; done) | (rw [tSt_3 (by assumption) (by omega) (by omega)]; done) | (rw [tSt_4 (by assumption) (by omega) (by omega)]; done) | (rw [tSt_1 (by assumption)]; rfl) | (rw [tSt_2 (by assumption) (by omega)]; rfl) | (rw [tSt_3 (by assumption) (by omega) (by omega)]; rfl) | (rw [tSt_4 (by assumption) (by omega) (by omega)]; rfl))
          exact ih11 (k + 1) (by omega) (by omega) _ _ _ _ _ e_58 e_59 e_60 e_61 e_62 _ _ hP hD hS _ (lv_sub hl [0, 3, 4, 5, 6, 7] rfl)
  exact L11 (b - a + 1) 0 (by omega) (by omega) _ _ _ _ _ rfl rfl rfl rfl rfl _ _ hP hD hS _ (lv_sub hl [0, 1, 2, 3, 4, 5] rfl)
set_option maxHeartbeats 4000000 in
set_option maxRecDepth 100000 in
theorem c_J7_fill_53178 (l : Launch) (G : va_G) (T : Nat → ClassId) (sz : Nat) (a : Nat) (f : Nat → Int32) (n : Nat) (v : Int32) (hn31 : n < 2 ^ 31) : RWv l yJ7_fill_53178 wsJ7_fill_53178 0 0 0 G T sz ([(a, .inl (T 0, n, .inl f))]) [.ref a, .int v] ([(a, .inl (T 0, n, .inl (fun _ => v)))]) := by
  refine Met.ofW (cc := cJ7_fill_53178) (maxL := 4) (ret := none) (by decide) rfl ?_
  intro p e s m args below meth c s₁ B hml hv
  obtain ⟨ha, hsz, hP, hK, hD0, hE0⟩ := hv
  have hx := B.exec
  have hb := B.bytes
  have hr := B.returns
  have hlocks := B.notSynchronized
  have hts := atoms_spec (ws := wsJ7_fill_53178) B.pre
  have hown : s.vm.findClass RJ7 = some m.cls := findClass_of_methodNamed B.named
  have cx : CallFix p m c cJ7_fill_53178 4 s args wsJ7_fill_53178 RJ7 := ⟨hx, hb, hml, hown, hts⟩
  subst hsz
  have hD := hD0.self (sz := s.heap.size)
  generalize hAe : va_A ([(a, .inl (T 0, n, .inl f))]) s.heap.size = A at hD hE0 ⊢
  have hE : gE A s s.heap := hE0
  have hA : ∀ q : Nat, s.heap.size ≤ q → A q := fun q h => by rw [← hAe]; exact Or.inr h
  have hS : va_S A s.heap s.heap [] := va_S.rf
  refine w_entry ha (Nat.le_of_ble_eq_true rfl) (fun ls hl => ?_)
  refine w_q (fun Q0 hQ => ?_)
  have hl : lv_has ls 4 [(0, .ref a), (1, .int v)] := hl
  have hP : va_P G vwCl [(a, .inl (T 0, n, .inl f))] s.heap := hP
  have hD : va_D A [(a, .inl (T 0, n, .inl f))] := hD
  skip
  refine w_h (fun H locs hHe hLe => ?_)
  have hP : va_P G vwCl [(a, .inl (T 0, n, .inl f))] H := by rw [hHe]; exact hP
  have hS : va_S A s.heap H locs := by rw [hHe, hLe]; exact hS
  refine n_iconst hx hb 0 dJ7_fill_53178_0 (by decide) ?_
  refine lv_istore_n (lv' := [(2, .int (nI 0)), (0, .ref a), (1, .int v)]) hx hb dJ7_fill_53178_1 rfl hl (by decide) rfl (fun ls hl => ?_)
  refine lv_aload_n hx hb dJ7_fill_53178_2 rfl (lv_at hl 1 rfl) ?_
  refine va_alen (v := nI n) hx hb hK hP 0 0 rfl rfl rfl dJ7_fill_53178_3 ?_
  refine lv_istore_n (lv' := [(3, .int (nI n)), (2, .int (nI 0)), (0, .ref a), (1, .int v)]) hx hb dJ7_fill_53178_4 rfl hl (by decide) rfl (fun ls hl => ?_)
  have L5 : ∀ (n9 k : Nat) (hk1 : k ≤ n) (hk2 : n - k < n9) (x2 : Int32) (F_1 : Nat → Int32) (hx2 : x2 = nI k) (hF_1 : F_1 = pFl f v k) (H : Heap) (locs : List Loc) (hP : va_P G vwCl [(a, .inl (T 0, n, .inl F_1))] H) (hD : va_D A [(a, .inl (T 0, n, .inl F_1))]) (hS : va_S A s.heap H locs) (ls : Array Slot) (hl : lv_has ls 4 [(3, .int (nI n)), (2, .int x2), (0, .ref a), (1, .int v)]), W p l e (headSpec wsJ7_fill_53178 (rmD 0 0 0)).room s m args below meth c H locs 0 0 Q0 (F0 m 5 ls []) := by
    intro n9
    induction n9 with
    | zero => intros; omega
    | succ n9 ih5 =>
      intro k hk1 hk2 x2 F_1 hx2 hF_1 H locs hP hD hS ls hl
      subst hx2 hF_1
      refine lv_iload_n hx hb dJ7_fill_53178_5 rfl (lv_at hl 1 rfl) ?_
      refine lv_iload_n hx hb dJ7_fill_53178_6 rfl (lv_at hl 0 rfl) ?_
      refine n_icmp_ge (a := k) (b := n) (tgt := 20) hx hb (by omega) (by omega) dJ7_fill_53178_7 (by decide) (fun c_2 => ?_) (fun c_3 => ?_)
      · skip
        subst hQ
        obtain rfl : n = k := (by omega)
        have hP : va_P G vwCl [(a, .inl (T 0, n, .inl (fun _ => v)))] H := wP_ext (ws := [(a, .inl (T 0, n, .inl (pFl f v n)))]) (i := 0) hP (fun j hj => pFl_lt f v n j hj)
        have hD : va_D A [(a, .inl (T 0, n, .inl (fun _ => v)))] := hD.set (p := 0) rfl
        have hP9 : va_P G vwCl ([(a, .inl (T 0, n, .inl (fun _ => v)))]) H := hP
        have hD9 : va_D A ([(a, .inl (T 0, n, .inl (fun _ => v)))]) := hD
        exact e_rwv hx hb hr hlocks hS hP9 hD9 dJ7_fill_53178_20
      · skip
        refine lv_aload_n hx hb dJ7_fill_53178_10 rfl (lv_at hl 2 rfl) ?_
        refine lv_iload_n hx hb dJ7_fill_53178_11 rfl (lv_at hl 1 rfl) ?_
        refine lv_iload_n hx hb dJ7_fill_53178_12 rfl (lv_at hl 3 rfl) ?_
        refine n_iast hx hb hK hP hD hS 0 0 rfl rfl k (by omega) (by omega) dJ7_fill_53178_13 (fun H locs hP hD hS => ?_)
        have hP : va_P G vwCl [(a, .inl (T 0, n, .inl (upd (pFl f v k) k v)))] H := hP
        have hD : va_D A [(a, .inl (T 0, n, .inl (upd (pFl f v k) k v)))] := hD
        refine lv_iinc (v := nI (k + 1)) (lv' := [(2, .int (nI (k + 1))), (3, .int (nI n)), (0, .ref a), (1, .int v)]) hx hb dJ7_fill_53178_14 hl (k := 1) rfl (n_inc k 1 rfl) (by decide) rfl (fun ls hl => ?_)
        refine lv_goto (tgt := 5) hx hb dJ7_fill_53178_17 (by decide) ?_
        have e_4 : (upd (pFl f v k) k v) = pFl f v (k + 1) := rfl
        exact ih5 (k + 1) (by omega) (by omega) _ _ rfl e_4 _ _ hP hD hS _ (lv_sub hl [1, 0, 2, 3] rfl)
  exact L5 (n + 1) 0 (by omega) (by omega) _ _ rfl rfl _ _ hP hD hS _ (lv_sub hl [0, 1, 2, 3] rfl)
set_option maxHeartbeats 4000000 in
set_option maxRecDepth 100000 in
theorem c_X7_sumOf (l : Launch) (G : va_G) (T : Nat → ClassId) (A : Nat → Prop) (a : Nat) (f : Nat → Int32) (n : Nat) (hn31 : n < 2 ^ 31) : RO l yX7_sumOf wsX7_sumOf 0 G T A ([(a, .inl (T 0, n, .inl f))]) [.ref a] (pSm f n) := by
  refine Met.ofW (cc := cX7_sumOf) (maxL := 6) (ret := (some .int)) (by decide) rfl ?_
  intro p e s m args below meth c s₁ B hml hv
  obtain ⟨ha, hP, hK, hE⟩ := hv
  have hx := B.exec
  have hb := B.bytes
  have hr := B.returns
  have hlocks := B.notSynchronized
  have hts := atoms_spec (ws := wsX7_sumOf) B.pre
  have hown : s.vm.findClass RX7 = some m.cls := findClass_of_methodNamed B.named
  have cx : CallFix p m c cX7_sumOf 6 s args wsX7_sumOf RX7 := ⟨hx, hb, hml, hown, hts⟩
  refine w_entry ha (Nat.le_of_ble_eq_true rfl) (fun ls hl => ?_)
  refine w_q (fun Q0 hQ => ?_)
  have hl : lv_has ls 6 [(0, .ref a)] := hl
  have hP : va_P G vwCl [(a, .inl (T 0, n, .inl f))] s.heap := hP
  refine n_iconst hx hb 0 dX7_sumOf_0 (by decide) ?_
  refine lv_istore_n (lv' := [(1, .int (nI 0)), (0, .ref a)]) hx hb dX7_sumOf_1 rfl hl (by decide) rfl (fun ls hl => ?_)
  refine lv_aload_n hx hb dX7_sumOf_2 rfl (lv_at hl 1 rfl) ?_
  refine lv_astore_n (lv' := [(2, .ref a), (1, .int (nI 0)), (0, .ref a)]) hx hb dX7_sumOf_3 rfl hl (by decide) rfl (fun ls hl => ?_)
  refine lv_aload_n hx hb dX7_sumOf_4 rfl (lv_at hl 0 rfl) ?_
  refine va_alen (v := nI n) hx hb hK hP 0 0 rfl rfl rfl dX7_sumOf_5 ?_
  refine lv_istore_n (lv' := [(3, .int (nI n)), (2, .ref a), (1, .int (nI 0)), (0, .ref a)]) hx hb dX7_sumOf_6 rfl hl (by decide) rfl (fun ls hl => ?_)
  refine n_iconst hx hb 0 dX7_sumOf_7 (by decide) ?_
  refine lv_istore (lv' := [(4, .int (nI 0)), (3, .int (nI n)), (2, .ref a), (1, .int (nI 0)), (0, .ref a)]) hx hb dX7_sumOf_8 hl (by decide) rfl (fun ls hl => ?_)
  have L10 : ∀ (n9 k : Nat) (hk1 : k ≤ n) (hk2 : n - k < n9) (x4 : Int32) (x1 : Int32) (hx4 : x4 = nI k) (hx1 : x1 = pSm f k) (ls : Array Slot) (hl : lv_has ls 6 [(4, .int x4), (3, .int (nI n)), (2, .ref a), (1, .int x1), (0, .ref a)]), W p l e (headSpec wsX7_sumOf (rmD 0 0 0)).room s m args below meth c s.heap [] 0 0 Q0 (F0 m 10 ls []) := by
    intro n9
    induction n9 with
    | zero => intros; omega
    | succ n9 ih10 =>
      intro k hk1 hk2 x4 x1 hx4 hx1 ls hl
      subst hx4 hx1
      refine lv_iload hx hb dX7_sumOf_10 (lv_at hl 0 rfl) ?_
      refine lv_iload_n hx hb dX7_sumOf_12 rfl (lv_at hl 1 rfl) ?_
      refine n_icmp_ge (a := k) (b := n) (tgt := 33) hx hb (by omega) (by omega) dX7_sumOf_13 (by decide) (fun c_1 => ?_) (fun c_2 => ?_)
      · skip
        refine lv_iload_n hx hb dX7_sumOf_33 rfl (lv_at hl 3 rfl) ?_
        subst hQ
        exact e_ro hx hb hr hlocks (by obtain rfl : k = n := (by omega); rfl) dX7_sumOf_34
      · skip
        refine lv_aload_n hx hb dX7_sumOf_16 rfl (lv_at hl 2 rfl) ?_
        refine lv_iload hx hb dX7_sumOf_17 (lv_at hl 0 rfl) ?_
        refine n_iald hx hb hK hP 0 0 rfl rfl k (by omega) (by omega) dX7_sumOf_19 ?_
        refine lv_istore (lv' := [(5, .int (f k)), (4, .int (nI k)), (3, .int (nI n)), (2, .ref a), (1, .int (pSm f k)), (0, .ref a)]) hx hb dX7_sumOf_20 hl (by decide) rfl (fun ls hl => ?_)
        refine lv_iload_n hx hb dX7_sumOf_22 rfl (lv_at hl 4 rfl) ?_
        refine lv_iload hx hb dX7_sumOf_23 (lv_at hl 0 rfl) ?_
        refine lv_iadd hx hb dX7_sumOf_25 ?_
        refine lv_istore_n (lv' := [(1, .int ((pSm f k) + (f k))), (5, .int (f k)), (4, .int (nI k)), (3, .int (nI n)), (2, .ref a), (0, .ref a)]) hx hb dX7_sumOf_26 rfl hl (by decide) rfl (fun ls hl => ?_)
        refine lv_iinc (v := nI (k + 1)) (lv' := [(4, .int (nI (k + 1))), (1, .int ((pSm f k) + (f k))), (5, .int (f k)), (3, .int (nI n)), (2, .ref a), (0, .ref a)]) hx hb dX7_sumOf_27 hl (k := 2) rfl (n_inc k 1 rfl) (by decide) rfl (fun ls hl => ?_)
        refine lv_goto (tgt := 10) hx hb dX7_sumOf_30 (by decide) ?_
        have e_3 : ((pSm f k) + (f k)) = pSm f (k + 1) := rfl
        exact ih10 (k + 1) (by omega) (by omega) _ _ rfl e_3 _ (lv_sub hl [0, 3, 4, 1, 5] rfl)
  exact L10 (n + 1) 0 (by omega) (by omega) _ _ rfl rfl _ (lv_sub hl [0, 1, 2, 3, 4] rfl)
theorem cfC_1 {ch : Nat → Nat} {nn e : Nat} (h : ch e = 0 ∧ nn + 1 < 161) : cfC ch nn e = nUp ch e (nn + 1) := if_pos h
theorem cfC_2 {ch : Nat → Nat} {nn e : Nat} (h : ¬ (ch e = 0 ∧ nn + 1 < 161)) : cfC ch nn e = ch := if_neg h
theorem cfN_1 {ch : Nat → Nat} {nn e : Nat} (h : ch e = 0 ∧ nn + 1 < 161) : cfN ch nn e = nn + 1 := if_pos h
theorem cfN_2 {ch : Nat → Nat} {nn e : Nat} (h : ¬ (ch e = 0 ∧ nn + 1 < 161)) : cfN ch nn e = nn := if_neg h

set_option maxHeartbeats 4000000 in
set_option maxRecDepth 100000 in
theorem c_X4_childOf (l : Launch) (G : va_G) (T : Nat → ClassId) (A : Nat → Prop) (q : Nat → Nat) (S : Nat → Nat → Int32) (nd : Nat) (sh : Nat) (ch : Nat → Nat) (hch : S 1 = fun i => nI (ch i)) (hnd : nd ≤ 160) (hs7 : sh < 7) : RO l yX4_childOf wsX4_childOf 0 G T A (oX4 T q S) [.ref (q 0), .int (nI nd), .int (nI sh)] (nI (ch (nd * 7 + sh))) := by
  refine Met.ofW (cc := cX4_childOf) (maxL := 4) (ret := (some .int)) (by decide) rfl ?_
  intro p e s m args below meth c s₁ B hml hv
  obtain ⟨ha, hP, hK, hE⟩ := hv
  have hx := B.exec
  have hb := B.bytes
  have hr := B.returns
  have hlocks := B.notSynchronized
  have hts := atoms_spec (ws := wsX4_childOf) B.pre
  have hown : s.vm.findClass RX4 = some m.cls := findClass_of_methodNamed B.named
  have cx : CallFix p m c cX4_childOf 4 s args wsX4_childOf RX4 := ⟨hx, hb, hml, hown, hts⟩
  refine w_entry ha (Nat.le_of_ble_eq_true rfl) (fun ls hl => ?_)
  refine w_q (fun Q0 hQ => ?_)
  have lk11 := hts (.fieldLink RX4 11 "WhistleTunes$ShapeTree" "children" "[I") (by decide +kernel)
  have hinX4 : ∀ w ∈ wsX40, w ∈ wsX4_childOf := by decide +kernel
  have hl : lv_has ls 4 [(0, .ref (q 0)), (1, .int (nI nd)), (2, .int (nI sh))] := hl
  have hP : va_P G vwCl [(q 0, .inr (4, [.ref (q 1), .ref (q 2), .int (S 0 2)])), (q 1, .inl (T 0, 1127, .inl (S 1))), (q 2, .inl (T 0, 161, .inl (S 2)))] s.heap := hP
  refine lv_iload_n hx hb dX4_childOf_0 rfl (lv_at hl 1 rfl) ?_
  refine lv_bipush (v := nI 7) hx hb dX4_childOf_1 (by decide) ?_
  refine n_imul (a := nd) (b := 7) hx hb dX4_childOf_3 ?_
  refine lv_iload_n hx hb dX4_childOf_4 rfl (lv_at hl 2 rfl) ?_
  refine n_iadd (a := nd * 7) (b := sh) hx hb dX4_childOf_5 ?_
  refine lv_istore_n (lv' := [(3, .int (nI (nd * 7 + sh))), (0, .ref (q 0)), (1, .int (nI nd)), (2, .int (nI sh))]) hx hb dX4_childOf_6 rfl hl (by decide) rfl (fun ls hl => ?_)
  refine lv_iload_n hx hb dX4_childOf_7 rfl (lv_at hl 0 rfl) ?_
  refine n_if_lt (a := nd * 7 + sh) hx hb (by omega) dX4_childOf_8 29 (by decide) ?_
  refine lv_iload_n hx hb dX4_childOf_11 rfl (lv_at hl 0 rfl) ?_
  refine lv_aload_n hx hb dX4_childOf_12 rfl (lv_at hl 1 rfl) ?_
  refine va_get (D := G) (ci := 4) (v := .ref (q 1)) (C := RX4) (T := TX4) (N := 3) hx hb hts hinX4 hown hK hP 0 rfl rfl 0 (by decide) lk11 (fun _ h9 => h9) rfl dX4_childOf_13 ?_
  refine va_alen (v := nI 1127) hx hb hK hP 1 0 rfl rfl rfl dX4_childOf_16 ?_
  refine n_icmp_ge (a := nd * 7 + sh) (b := 1127) (tgt := 29) hx hb (by omega) (by decide) dX4_childOf_17 (by decide) (fun c_1 => by exfalso; omega) (fun c_2 => ?_)
  refine lv_aload_n hx hb dX4_childOf_20 rfl (lv_at hl 1 rfl) ?_
  refine va_get (D := G) (ci := 4) (v := .ref (q 1)) (C := RX4) (T := TX4) (N := 3) hx hb hts hinX4 hown hK hP 0 rfl rfl 0 (by decide) lk11 (fun _ h9 => h9) rfl dX4_childOf_21 ?_
  refine lv_iload_n hx hb dX4_childOf_24 rfl (lv_at hl 0 rfl) ?_
  refine n_iald hx hb hK hP 1 0 rfl rfl (nd * 7 + sh) (by omega) (by decide) dX4_childOf_25 ?_
  refine n_top (y := nI (ch (nd * 7 + sh))) (congrFun hch _) ?_
  refine lv_goto (tgt := 30) hx hb dX4_childOf_26 (by decide) ?_
  subst hQ
  exact e_ro hx hb hr hlocks rfl dX4_childOf_30
set_option maxHeartbeats 4000000 in
set_option maxRecDepth 100000 in
theorem c_X4_childFor (l : Launch) (G : va_G) (T : Nat → ClassId) (sz : Nat) (q : Nat → Nat) (S : Nat → Nat → Int32) (nd : Nat) (sh : Nat) (ch : Nat → Nat) (nn : Nat) (hch : S 1 = fun i => nI (ch i)) (hnn : S 0 2 = nI nn) (hok : chOk ch nn) (hnd : nd ≤ 160) (hs7 : sh < 7) : RWi l yX4_childFor wsX4_childFor 0 0 0 G T sz (oX4 T q S) [.ref (q 0), .int (nI nd), .int (nI sh)] (nI (cfC ch nn (nd * 7 + sh) (nd * 7 + sh))) (oX4 T q (sa (sc S 2 (nI (cfN ch nn (nd * 7 + sh)))) 1 (fun i => nI (cfC ch nn (nd * 7 + sh) i)))) := by
  refine Met.ofW (cc := cX4_childFor) (maxL := 4) (ret := (some .int)) (by decide) rfl ?_
  intro p e s m args below meth c s₁ B hml hv
  obtain ⟨ha, hsz, hP, hK, hD0, hE0⟩ := hv
  have hx := B.exec
  have hb := B.bytes
  have hr := B.returns
  have hlocks := B.notSynchronized
  have hts := atoms_spec (ws := wsX4_childFor) B.pre
  have hown : s.vm.findClass RX4 = some m.cls := findClass_of_methodNamed B.named
  have cx : CallFix p m c cX4_childFor 4 s args wsX4_childFor RX4 := ⟨hx, hb, hml, hown, hts⟩
  subst hsz
  have hD := hD0.self (sz := s.heap.size)
  generalize hAe : va_A (oX4 T q S) s.heap.size = A at hD hE0 ⊢
  have hE : gE A s s.heap := hE0
  have hA : ∀ q : Nat, s.heap.size ≤ q → A q := fun q h => by rw [← hAe]; exact Or.inr h
  have hS : va_S A s.heap s.heap [] := va_S.rf
  refine w_entry ha (Nat.le_of_ble_eq_true rfl) (fun ls hl => ?_)
  refine w_q (fun Q0 hQ => ?_)
  have lk11 := hts (.fieldLink RX4 11 "WhistleTunes$ShapeTree" "children" "[I") (by decide +kernel)
  have hinX4 : ∀ w ∈ wsX40, w ∈ wsX4_childFor := by decide +kernel
  have lk24 := hts (.fieldLink RX4 24 "WhistleTunes$ShapeTree" "nodes" "I") (by decide +kernel)
  have hl : lv_has ls 4 [(0, .ref (q 0)), (1, .int (nI nd)), (2, .int (nI sh))] := hl
  have hP : va_P G vwCl [(q 0, .inr (4, [.ref (q 1), .ref (q 2), .int (S 0 2)])), (q 1, .inl (T 0, 1127, .inl (S 1))), (q 2, .inl (T 0, 161, .inl (S 2)))] s.heap := hP
  have hD : va_D A [(q 0, .inr (4, [.ref (q 1), .ref (q 2), .int (S 0 2)])), (q 1, .inl (T 0, 1127, .inl (S 1))), (q 2, .inl (T 0, 161, .inl (S 2)))] := hD
  skip
  have hn160 := hok.1
  have hce := hok.2 (nd * 7 + sh)
  refine w_h (fun H locs hHe hLe => ?_)
  have hP : va_P G vwCl [(q 0, .inr (4, [.ref (q 1), .ref (q 2), .int (S 0 2)])), (q 1, .inl (T 0, 1127, .inl (S 1))), (q 2, .inl (T 0, 161, .inl (S 2)))] H := by rw [hHe]; exact hP
  have hS : va_S A s.heap H locs := by rw [hHe, hLe]; exact hS
  refine lv_iload_n hx hb dX4_childFor_0 rfl (lv_at hl 1 rfl) ?_
  refine lv_bipush (v := nI 7) hx hb dX4_childFor_1 (by decide) ?_
  refine n_imul (a := nd) (b := 7) hx hb dX4_childFor_3 ?_
  refine lv_iload_n hx hb dX4_childFor_4 rfl (lv_at hl 2 rfl) ?_
  refine n_iadd (a := nd * 7) (b := sh) hx hb dX4_childFor_5 ?_
  refine lv_istore_n (lv' := [(3, .int (nI (nd * 7 + sh))), (0, .ref (q 0)), (1, .int (nI nd)), (2, .int (nI sh))]) hx hb dX4_childFor_6 rfl hl (by decide) rfl (fun ls hl => ?_)
  refine lv_iload_n hx hb dX4_childFor_7 rfl (lv_at hl 0 rfl) ?_
  refine n_if_lt (a := nd * 7 + sh) hx hb (by omega) dX4_childFor_8 20 (by decide) ?_
  refine lv_iload_n hx hb dX4_childFor_11 rfl (lv_at hl 0 rfl) ?_
  refine lv_aload_n hx hb dX4_childFor_12 rfl (lv_at hl 1 rfl) ?_
  refine va_get (D := G) (ci := 4) (v := .ref (q 1)) (C := RX4) (T := TX4) (N := 3) hx hb hts hinX4 hown hK hP 0 rfl rfl 0 (by decide) lk11 (fun _ h9 => h9) rfl dX4_childFor_13 ?_
  refine va_alen (v := nI 1127) hx hb hK hP 1 0 rfl rfl rfl dX4_childFor_16 ?_
  refine n_icmp_lt (a := nd * 7 + sh) (b := 1127) (tgt := 22) hx hb (by omega) (by decide) dX4_childFor_17 (by decide) (fun c_1 => ?_) (fun c_2 => by exfalso; omega)
  refine lv_aload_n hx hb dX4_childFor_22 rfl (lv_at hl 1 rfl) ?_
  refine va_get (D := G) (ci := 4) (v := .ref (q 1)) (C := RX4) (T := TX4) (N := 3) hx hb hts hinX4 hown hK hP 0 rfl rfl 0 (by decide) lk11 (fun _ h9 => h9) rfl dX4_childFor_23 ?_
  refine lv_iload_n hx hb dX4_childFor_26 rfl (lv_at hl 0 rfl) ?_
  refine n_iald hx hb hK hP 1 0 rfl rfl (nd * 7 + sh) (by omega) (by decide) dX4_childFor_27 ?_
  refine n_top (y := nI (ch (nd * 7 + sh))) (congrFun hch _) ?_
  refine n_if_ne (a := ch (nd * 7 + sh)) (tgt := 63) hx hb (by omega) dX4_childFor_28 (by decide) (fun c_3 => ?_) (fun c_4 => ?_)
  · skip
    refine lv_aload_n hx hb dX4_childFor_63 rfl (lv_at hl 1 rfl) ?_
    refine va_get (D := G) (ci := 4) (v := .ref (q 1)) (C := RX4) (T := TX4) (N := 3) hx hb hts hinX4 hown hK hP 0 rfl rfl 0 (by decide) lk11 (fun _ h9 => h9) rfl dX4_childFor_64 ?_
    refine lv_iload_n hx hb dX4_childFor_67 rfl (lv_at hl 0 rfl) ?_
    refine n_iald hx hb hK hP 1 0 rfl rfl (nd * 7 + sh) (by omega) (by decide) dX4_childFor_68 ?_
    refine n_top (y := nI (ch (nd * 7 + sh))) (congrFun hch _) ?_
    subst hQ
    have e_5 : (S 1) = fun i => nI (cfC ch nn (nd * 7 + sh) i) := (by first | (rw [cfC_2 (by omega)]; exact hch) | (rw [cfC_1 (by omega), hch]; exact nUp_I _ _ _))
    have e_6 : S 0 2 = nI (cfN ch nn (nd * 7 + sh)) := (by first | (rw [cfN_2 (by omega)]; exact hnn) | (rw [cfN_1 (by omega)]; done))
    rw [e_6, e_5] at hP hD
    have hP9 : va_P G vwCl (oX4 T q (sa (sc S 2 (nI (cfN ch nn (nd * 7 + sh)))) 1 (fun i => nI (cfC ch nn (nd * 7 + sh) i)))) H := hP
    have hD9 : va_D A (oX4 T q (sa (sc S 2 (nI (cfN ch nn (nd * 7 + sh)))) 1 (fun i => nI (cfC ch nn (nd * 7 + sh) i)))) := hD
    exact e_rwi hx hb hr hlocks hS (by first | (rw [cfC_2 (by omega)]; done) | (rw [cfC_1 (by omega)]; simp [nUp, upd])) hP9 hD9 dX4_childFor_69
  · skip
    refine lv_aload_n hx hb dX4_childFor_31 rfl (lv_at hl 1 rfl) ?_
    refine va_get (D := G) (ci := 4) (v := .int (S 0 2)) (C := RX4) (T := TX4) (N := 3) hx hb hts hinX4 hown hK hP 0 rfl rfl 2 (by decide) lk24 (fun _ h9 => h9) rfl dX4_childFor_32 ?_
    refine n_top (y := nI nn) hnn ?_
    refine n_iconst hx hb 1 dX4_childFor_35 (by decide) ?_
    refine n_iadd (a := nn) (b := 1) hx hb dX4_childFor_36 ?_
    refine lv_sipush (v := nI 161) hx hb dX4_childFor_37 (by decide) ?_
    refine n_icmp_ge (a := nn + 1) (b := 161) (tgt := 63) hx hb (by omega) (by decide) dX4_childFor_40 (by decide) (fun c_7 => ?_) (fun c_8 => ?_)
    · skip
      refine lv_aload_n hx hb dX4_childFor_63 rfl (lv_at hl 1 rfl) ?_
      refine va_get (D := G) (ci := 4) (v := .ref (q 1)) (C := RX4) (T := TX4) (N := 3) hx hb hts hinX4 hown hK hP 0 rfl rfl 0 (by decide) lk11 (fun _ h9 => h9) rfl dX4_childFor_64 ?_
      refine lv_iload_n hx hb dX4_childFor_67 rfl (lv_at hl 0 rfl) ?_
      refine n_iald hx hb hK hP 1 0 rfl rfl (nd * 7 + sh) (by omega) (by decide) dX4_childFor_68 ?_
      refine n_top (y := nI (ch (nd * 7 + sh))) (congrFun hch _) ?_
      subst hQ
      have e_9 : (S 1) = fun i => nI (cfC ch nn (nd * 7 + sh) i) := (by first | (rw [cfC_2 (by omega)]; exact hch) | (rw [cfC_1 (by omega), hch]; exact nUp_I _ _ _))
      have e_10 : S 0 2 = nI (cfN ch nn (nd * 7 + sh)) := (by first | (rw [cfN_2 (by omega)]; exact hnn) | (rw [cfN_1 (by omega)]; done))
      rw [e_10, e_9] at hP hD
      have hP9 : va_P G vwCl (oX4 T q (sa (sc S 2 (nI (cfN ch nn (nd * 7 + sh)))) 1 (fun i => nI (cfC ch nn (nd * 7 + sh) i)))) H := hP
      have hD9 : va_D A (oX4 T q (sa (sc S 2 (nI (cfN ch nn (nd * 7 + sh)))) 1 (fun i => nI (cfC ch nn (nd * 7 + sh) i)))) := hD
      exact e_rwi hx hb hr hlocks hS (by first | (rw [cfC_2 (by omega)]; done) | (rw [cfC_1 (by omega)]; simp [nUp, upd])) hP9 hD9 dX4_childFor_69
    · skip
      refine lv_aload_n hx hb dX4_childFor_43 rfl (lv_at hl 1 rfl) ?_
      refine lv_dup hx hb dX4_childFor_44 rfl ?_
      refine va_get (D := G) (ci := 4) (v := .int (S 0 2)) (C := RX4) (T := TX4) (N := 3) hx hb hts hinX4 hown hK hP 0 rfl rfl 2 (by decide) lk24 (fun _ h9 => h9) rfl dX4_childFor_45 ?_
      refine n_top (y := nI nn) hnn ?_
      refine n_iconst hx hb 1 dX4_childFor_48 (by decide) ?_
      refine n_iadd (a := nn) (b := 1) hx hb dX4_childFor_49 ?_
      refine va_put (D := G) (ci := 4) (v := .int (nI (nn + 1))) (ty := .int) (C := RX4) (T := TX4) (N := 3) hx hb hts hinX4 tyX4 tyX4_ok nmX4 hown hK hP hD hS 0 rfl rfl 2 (by decide) lk24 (fun _ h9 => h9) rfl (by decide +kernel) rfl rfl (Nat.le_of_ble_eq_true rfl) dX4_childFor_50 (fun H locs hP hD hS => ?_)
      have hP : va_P G vwCl [(q 0, .inr (4, [.ref (q 1), .ref (q 2), .int (nI (nn + 1))])), (q 1, .inl (T 0, 1127, .inl (S 1))), (q 2, .inl (T 0, 161, .inl (S 2)))] H := hP
      have hD : va_D A [(q 0, .inr (4, [.ref (q 1), .ref (q 2), .int (nI (nn + 1))])), (q 1, .inl (T 0, 1127, .inl (S 1))), (q 2, .inl (T 0, 161, .inl (S 2)))] := hD
      refine lv_aload_n hx hb dX4_childFor_53 rfl (lv_at hl 1 rfl) ?_
      refine va_get (D := G) (ci := 4) (v := .ref (q 1)) (C := RX4) (T := TX4) (N := 3) hx hb hts hinX4 hown hK hP 0 rfl rfl 0 (by decide) lk11 (fun _ h9 => h9) rfl dX4_childFor_54 ?_
      refine lv_iload_n hx hb dX4_childFor_57 rfl (lv_at hl 0 rfl) ?_
      refine lv_aload_n hx hb dX4_childFor_58 rfl (lv_at hl 1 rfl) ?_
      refine va_get (D := G) (ci := 4) (v := .int (nI (nn + 1))) (C := RX4) (T := TX4) (N := 3) hx hb hts hinX4 hown hK hP 0 rfl rfl 2 (by decide) lk24 (fun _ h9 => h9) rfl dX4_childFor_59 ?_
      refine n_iast hx hb hK hP hD hS 1 0 rfl rfl (nd * 7 + sh) (by omega) (by decide) dX4_childFor_62 (fun H locs hP hD hS => ?_)
      have hP : va_P G vwCl [(q 0, .inr (4, [.ref (q 1), .ref (q 2), .int (nI (nn + 1))])), (q 1, .inl (T 0, 1127, .inl (upd (S 1) (nd * 7 + sh) (nI (nn + 1))))), (q 2, .inl (T 0, 161, .inl (S 2)))] H := hP
      have hD : va_D A [(q 0, .inr (4, [.ref (q 1), .ref (q 2), .int (nI (nn + 1))])), (q 1, .inl (T 0, 1127, .inl (upd (S 1) (nd * 7 + sh) (nI (nn + 1))))), (q 2, .inl (T 0, 161, .inl (S 2)))] := hD
      refine lv_aload_n hx hb dX4_childFor_63 rfl (lv_at hl 1 rfl) ?_
      refine va_get (D := G) (ci := 4) (v := .ref (q 1)) (C := RX4) (T := TX4) (N := 3) hx hb hts hinX4 hown hK hP 0 rfl rfl 0 (by decide) lk11 (fun _ h9 => h9) rfl dX4_childFor_64 ?_
      refine lv_iload_n hx hb dX4_childFor_67 rfl (lv_at hl 0 rfl) ?_
      refine n_iald hx hb hK hP 1 0 rfl rfl (nd * 7 + sh) (by omega) (by decide) dX4_childFor_68 ?_
      subst hQ
      have e_11 : (upd (S 1) (nd * 7 + sh) (nI (nn + 1))) = fun i => nI (cfC ch nn (nd * 7 + sh) i) := (by first | (rw [cfC_2 (by omega)]; exact hch) | (rw [cfC_1 (by omega), hch]; exact nUp_I _ _ _))
      have e_12 : nI (nn + 1) = nI (cfN ch nn (nd * 7 + sh)) := (by first | (rw [cfN_2 (by omega)]; exact hnn) | (rw [cfN_1 (by omega)]; done))
      rw [e_11, e_12] at hP hD
      have hP9 : va_P G vwCl (oX4 T q (sa (sc S 2 (nI (cfN ch nn (nd * 7 + sh)))) 1 (fun i => nI (cfC ch nn (nd * 7 + sh) i)))) H := hP
      have hD9 : va_D A (oX4 T q (sa (sc S 2 (nI (cfN ch nn (nd * 7 + sh)))) 1 (fun i => nI (cfC ch nn (nd * 7 + sh) i)))) := hD
      exact e_rwi hx hb hr hlocks hS (by first | (rw [cfC_2 (by omega)]; done) | (rw [cfC_1 (by omega)]; simp [nUp, upd])) hP9 hD9 dX4_childFor_69
set_option maxHeartbeats 4000000 in
set_option maxRecDepth 100000 in
theorem c_X4_addShape (l : Launch) (G : va_G) (T : Nat → ClassId) (sz : Nat) (q : Nat → Nat) (qs : Nat → Nat) (S : Nat → Nat → Int32) (U : Nat → Nat → Int32) (mm : Nat) (tl : Nat → Nat) (ch : Nat → Nat) (nn : Nat) (hm20 : mm < 20) (htl : ∀ i : Nat, i < 20 → U 6 i = nI (tl i)) (htl8 : ∀ i : Nat, i < 20 → tl i ≤ 8) (hch : S 1 = fun i => nI (ch i)) (hnn : S 0 2 = nI nn) (hok : chOk ch nn) : RWv l yX4_addShape wsX4_addShape 3 0 0 G T sz (oX4 T q S ++ oX3 T qs U) [.ref (q 0), .ref (qs 0), .int (nI mm)] (oX4 T q (sa (sa (sc S 2 (nI (tAd U mm ch nn (tl mm)).2.1)) 1 (fun i => nI ((tAd U mm ch nn (tl mm)).1 i))) 2 (upd (S 2) (tAd U mm ch nn (tl mm)).2.2 (nI mm))) ++ oX3 T qs U) := by
  refine Met.ofW (cc := cX4_addShape) (maxL := 6) (ret := none) (by decide) rfl ?_
  intro p e s m args below meth c s₁ B hml hv
  obtain ⟨ha, hsz, hP, hK, hD0, hE0⟩ := hv
  have hx := B.exec
  have hb := B.bytes
  have hr := B.returns
  have hlocks := B.notSynchronized
  have hts := atoms_spec (ws := wsX4_addShape) B.pre
  have hown : s.vm.findClass RX4 = some m.cls := findClass_of_methodNamed B.named
  have cx : CallFix p m c cX4_addShape 6 s args wsX4_addShape RX4 := ⟨hx, hb, hml, hown, hts⟩
  subst hsz
  have hD := hD0.self (sz := s.heap.size)
  generalize hAe : va_A (oX4 T q S ++ oX3 T qs U) s.heap.size = A at hD hE0 ⊢
  have hE : gE A s s.heap := hE0
  have hA : ∀ q : Nat, s.heap.size ≤ q → A q := fun q h => by rw [← hAe]; exact Or.inr h
  have hS : va_S A s.heap s.heap [] := va_S.rf
  refine w_entry ha (Nat.le_of_ble_eq_true rfl) (fun ls hl => ?_)
  refine w_q (fun Q0 hQ => ?_)
  have lk28 := hts (.fieldLink RX4 28 "WhistleTunes$School" "tuneLengths" "[I") (by decide +kernel)
  have hinX3 : ∀ w ∈ wsX30, w ∈ wsX4_addShape := by decide +kernel
  have lk15 := hts (.fieldLink RX4 15 "WhistleTunes$ShapeTree" "messages" "[I") (by decide +kernel)
  have hinX4 : ∀ w ∈ wsX40, w ∈ wsX4_addShape := by decide +kernel
  have hl : lv_has ls 6 [(0, .ref (q 0)), (1, .ref (qs 0)), (2, .int (nI mm))] := hl
  have hP : va_P G vwCl [(q 0, .inr (4, [.ref (q 1), .ref (q 2), .int (S 0 2)])), (q 1, .inl (T 0, 1127, .inl (S 1))), (q 2, .inl (T 0, 161, .inl (S 2))), (qs 0, .inr (3, [.int (U 0 0), .int (U 0 1), .int (U 0 2), .int (U 0 3), .ref (qs 5), .ref (qs 6), .ref (qs 7), .ref (qs 8), .ref (qs 9), .ref (qs 10), .ref (qs 11), .ref (qs 12), .ref (qs 13), .ref (qs 14), .ref (qs 15), .ref (qs 16)])), (qs 5, .inl (T 0, 2, .inl (U 5))), (qs 6, .inl (T 0, 20, .inl (U 6))), (qs 7, .inl (T 0, 160, .inl (U 7))), (qs 8, .inl (T 0, 20, .inl (U 8))), (qs 9, .inl (T 0, 20, .inl (U 9))), (qs 10, .inl (T 0, 20, .inl (U 10))), (qs 11, .inl (T 0, 6, .inl (U 11))), (qs 12, .inl (T 0, 6, .inl (U 12))), (qs 13, .inl (T 0, 6, .inl (U 13))), (qs 14, .inl (T 0, 6, .inl (U 14))), (qs 15, .inl (T 0, 6, .inl (U 15))), (qs 16, .inl (T 0, 2, .inl (U 16)))] s.heap := hP
  have hD : va_D A [(q 0, .inr (4, [.ref (q 1), .ref (q 2), .int (S 0 2)])), (q 1, .inl (T 0, 1127, .inl (S 1))), (q 2, .inl (T 0, 161, .inl (S 2))), (qs 0, .inr (3, [.int (U 0 0), .int (U 0 1), .int (U 0 2), .int (U 0 3), .ref (qs 5), .ref (qs 6), .ref (qs 7), .ref (qs 8), .ref (qs 9), .ref (qs 10), .ref (qs 11), .ref (qs 12), .ref (qs 13), .ref (qs 14), .ref (qs 15), .ref (qs 16)])), (qs 5, .inl (T 0, 2, .inl (U 5))), (qs 6, .inl (T 0, 20, .inl (U 6))), (qs 7, .inl (T 0, 160, .inl (U 7))), (qs 8, .inl (T 0, 20, .inl (U 8))), (qs 9, .inl (T 0, 20, .inl (U 9))), (qs 10, .inl (T 0, 20, .inl (U 10))), (qs 11, .inl (T 0, 6, .inl (U 11))), (qs 12, .inl (T 0, 6, .inl (U 12))), (qs 13, .inl (T 0, 6, .inl (U 13))), (qs 14, .inl (T 0, 6, .inl (U 14))), (qs 15, .inl (T 0, 6, .inl (U 15))), (qs 16, .inl (T 0, 2, .inl (U 16)))] := hD
  skip
  have htm := htl8 mm hm20
  refine w_h (fun H locs hHe hLe => ?_)
  have hP : va_P G vwCl [(q 0, .inr (4, [.ref (q 1), .ref (q 2), .int (S 0 2)])), (q 1, .inl (T 0, 1127, .inl (S 1))), (q 2, .inl (T 0, 161, .inl (S 2))), (qs 0, .inr (3, [.int (U 0 0), .int (U 0 1), .int (U 0 2), .int (U 0 3), .ref (qs 5), .ref (qs 6), .ref (qs 7), .ref (qs 8), .ref (qs 9), .ref (qs 10), .ref (qs 11), .ref (qs 12), .ref (qs 13), .ref (qs 14), .ref (qs 15), .ref (qs 16)])), (qs 5, .inl (T 0, 2, .inl (U 5))), (qs 6, .inl (T 0, 20, .inl (U 6))), (qs 7, .inl (T 0, 160, .inl (U 7))), (qs 8, .inl (T 0, 20, .inl (U 8))), (qs 9, .inl (T 0, 20, .inl (U 9))), (qs 10, .inl (T 0, 20, .inl (U 10))), (qs 11, .inl (T 0, 6, .inl (U 11))), (qs 12, .inl (T 0, 6, .inl (U 12))), (qs 13, .inl (T 0, 6, .inl (U 13))), (qs 14, .inl (T 0, 6, .inl (U 14))), (qs 15, .inl (T 0, 6, .inl (U 15))), (qs 16, .inl (T 0, 2, .inl (U 16)))] H := by rw [hHe]; exact hP
  have hS : va_S A s.heap H locs := by rw [hHe, hLe]; exact hS
  refine lv_aload_n hx hb dX4_addShape_0 rfl (lv_at hl 1 rfl) ?_
  refine lv_iload_n hx hb dX4_addShape_1 rfl (lv_at hl 2 rfl) ?_
  refine n_iconst hx hb 0 dX4_addShape_2 (by decide) ?_
  refine k_roV (As := [.int (nI mm), .int (nI 0)]) (rest := []) (wc := oX3 T qs U) (d := 0) (v := (U 7) (mm * 8)) cx (c_X3_noteAt l G T A qs U mm 0 (by omega) (by omega)) (cwV 2 hts gX4_addShape_X3_noteAt rfl rfl rfl (by decide +kernel) ⟨Nat.le_of_ble_eq_true rfl, Nat.le_of_ble_eq_true rfl⟩) (hP.sub (ws' := oX3 T qs U) [3, 4, 5, 6, 7, 8, 9, 10, 11, 12, 13, 14, 15] rfl) hK (hE.kept hS.2.1) (va_recv hK hP (ci := 3) (q0 := 3) rfl rfl) rfl hl.1 rfl (Nat.le_of_ble_eq_true rfl) dX4_addShape_3 ⟨Nat.le_of_ble_eq_true rfl, Nat.le_of_ble_eq_true rfl⟩ ?_
  refine lv_istore_n (lv' := [(3, .int ((U 7) (mm * 8))), (0, .ref (q 0)), (1, .ref (qs 0)), (2, .int (nI mm))]) hx hb dX4_addShape_6 rfl hl (by decide) rfl (fun ls hl => ?_)
  refine n_iconst hx hb 0 dX4_addShape_7 (by decide) ?_
  refine lv_istore (lv' := [(4, .int (nI 0)), (3, .int ((U 7) (mm * 8))), (0, .ref (q 0)), (1, .ref (qs 0)), (2, .int (nI mm))]) hx hb dX4_addShape_8 hl (by decide) rfl (fun ls hl => ?_)
  refine n_iconst hx hb 0 dX4_addShape_10 (by decide) ?_
  refine lv_istore (lv' := [(5, .int (nI 0)), (4, .int (nI 0)), (3, .int ((U 7) (mm * 8))), (0, .ref (q 0)), (1, .ref (qs 0)), (2, .int (nI mm))]) hx hb dX4_addShape_11 hl (by decide) rfl (fun ls hl => ?_)
  have L13 : ∀ (n9 k : Nat) (hk1 : k ≤ tl mm) (hk2 : tl mm - k < n9) (x5 : Int32) (x4 : Int32) (F_1 : Nat → Int32) (y_2 : Int32) (hx5 : x5 = nI k) (hx4 : x4 = nI (tAd U mm ch nn k).2.2) (hF_1 : F_1 = fun i => nI ((tAd U mm ch nn k).1 i)) (hy_2 : y_2 = nI (tAd U mm ch nn k).2.1) (H : Heap) (locs : List Loc) (hP : va_P G vwCl [(q 0, .inr (4, [.ref (q 1), .ref (q 2), .int y_2])), (q 1, .inl (T 0, 1127, .inl F_1)), (q 2, .inl (T 0, 161, .inl (S 2))), (qs 0, .inr (3, [.int (U 0 0), .int (U 0 1), .int (U 0 2), .int (U 0 3), .ref (qs 5), .ref (qs 6), .ref (qs 7), .ref (qs 8), .ref (qs 9), .ref (qs 10), .ref (qs 11), .ref (qs 12), .ref (qs 13), .ref (qs 14), .ref (qs 15), .ref (qs 16)])), (qs 5, .inl (T 0, 2, .inl (U 5))), (qs 6, .inl (T 0, 20, .inl (U 6))), (qs 7, .inl (T 0, 160, .inl (U 7))), (qs 8, .inl (T 0, 20, .inl (U 8))), (qs 9, .inl (T 0, 20, .inl (U 9))), (qs 10, .inl (T 0, 20, .inl (U 10))), (qs 11, .inl (T 0, 6, .inl (U 11))), (qs 12, .inl (T 0, 6, .inl (U 12))), (qs 13, .inl (T 0, 6, .inl (U 13))), (qs 14, .inl (T 0, 6, .inl (U 14))), (qs 15, .inl (T 0, 6, .inl (U 15))), (qs 16, .inl (T 0, 2, .inl (U 16)))] H) (hD : va_D A [(q 0, .inr (4, [.ref (q 1), .ref (q 2), .int y_2])), (q 1, .inl (T 0, 1127, .inl F_1)), (q 2, .inl (T 0, 161, .inl (S 2))), (qs 0, .inr (3, [.int (U 0 0), .int (U 0 1), .int (U 0 2), .int (U 0 3), .ref (qs 5), .ref (qs 6), .ref (qs 7), .ref (qs 8), .ref (qs 9), .ref (qs 10), .ref (qs 11), .ref (qs 12), .ref (qs 13), .ref (qs 14), .ref (qs 15), .ref (qs 16)])), (qs 5, .inl (T 0, 2, .inl (U 5))), (qs 6, .inl (T 0, 20, .inl (U 6))), (qs 7, .inl (T 0, 160, .inl (U 7))), (qs 8, .inl (T 0, 20, .inl (U 8))), (qs 9, .inl (T 0, 20, .inl (U 9))), (qs 10, .inl (T 0, 20, .inl (U 10))), (qs 11, .inl (T 0, 6, .inl (U 11))), (qs 12, .inl (T 0, 6, .inl (U 12))), (qs 13, .inl (T 0, 6, .inl (U 13))), (qs 14, .inl (T 0, 6, .inl (U 14))), (qs 15, .inl (T 0, 6, .inl (U 15))), (qs 16, .inl (T 0, 2, .inl (U 16)))]) (hS : va_S A s.heap H locs) (ls : Array Slot) (hl : lv_has ls 6 [(5, .int x5), (4, .int x4), (3, .int ((U 7) (mm * 8))), (0, .ref (q 0)), (1, .ref (qs 0)), (2, .int (nI mm))]), W p l e (headSpec wsX4_addShape (rmD 3 0 0)).room s m args below meth c H locs 0 0 Q0 (F0 m 13 ls []) := by
    intro n9
    induction n9 with
    | zero => intros; omega
    | succ n9 ih13 =>
      intro k hk1 hk2 x5 x4 F_1 y_2 hx5 hx4 hF_1 hy_2 H locs hP hD hS ls hl
      subst hx5 hx4 hF_1 hy_2
      obtain ⟨hka, hkb⟩ := tAd_ok (S := U) (m := mm) hok k
      have hk160 := hka.1
      refine lv_iload hx hb dX4_addShape_13 (lv_at hl 0 rfl) ?_
      refine lv_aload_n hx hb dX4_addShape_15 rfl (lv_at hl 4 rfl) ?_
      refine va_get (D := G) (ci := 3) (v := .ref (qs 6)) (C := RX3) (T := TX3) (N := 16) hx hb hts hinX3 hown hK hP 3 rfl rfl 5 (by decide) lk28 (fun _ h9 => h9) rfl dX4_addShape_16 ?_
      refine lv_iload_n hx hb dX4_addShape_19 rfl (lv_at hl 5 rfl) ?_
      refine n_iald hx hb hK hP 5 0 rfl rfl mm (by omega) (by decide) dX4_addShape_20 ?_
      refine n_top (y := nI (tl mm)) (htl mm hm20) ?_
      refine n_icmp_ge (a := k) (b := tl mm) (tgt := 52) hx hb (by omega) (by omega) dX4_addShape_21 (by decide) (fun c_3 => ?_) (fun c_4 => ?_)
      · skip
        refine lv_iload hx hb dX4_addShape_52 (lv_at hl 1 rfl) ?_
        refine lv_sipush (v := nI 161) hx hb dX4_addShape_54 (by decide) ?_
        refine n_icmp_ge (a := (tAd U mm ch nn k).2.2) (b := 161) (tgt := 68) hx hb (by omega) (by decide) dX4_addShape_57 (by decide) (fun c_5 => by exfalso; omega) (fun c_6 => ?_)
        refine lv_aload_n hx hb dX4_addShape_60 rfl (lv_at hl 3 rfl) ?_
        refine va_get (D := G) (ci := 4) (v := .ref (q 2)) (C := RX4) (T := TX4) (N := 3) hx hb hts hinX4 hown hK hP 0 rfl rfl 1 (by decide) lk15 (fun _ h9 => h9) rfl dX4_addShape_61 ?_
        refine lv_iload hx hb dX4_addShape_64 (lv_at hl 1 rfl) ?_
        refine lv_iload_n hx hb dX4_addShape_66 rfl (lv_at hl 5 rfl) ?_
        refine n_iast hx hb hK hP hD hS 2 0 rfl rfl (tAd U mm ch nn k).2.2 (by omega) (by decide) dX4_addShape_67 (fun H locs hP hD hS => ?_)
        have hP : va_P G vwCl [(q 0, .inr (4, [.ref (q 1), .ref (q 2), .int (nI (tAd U mm ch nn k).2.1)])), (q 1, .inl (T 0, 1127, .inl (fun i => nI ((tAd U mm ch nn k).1 i)))), (q 2, .inl (T 0, 161, .inl (upd (S 2) (tAd U mm ch nn k).2.2 (nI mm)))), (qs 0, .inr (3, [.int (U 0 0), .int (U 0 1), .int (U 0 2), .int (U 0 3), .ref (qs 5), .ref (qs 6), .ref (qs 7), .ref (qs 8), .ref (qs 9), .ref (qs 10), .ref (qs 11), .ref (qs 12), .ref (qs 13), .ref (qs 14), .ref (qs 15), .ref (qs 16)])), (qs 5, .inl (T 0, 2, .inl (U 5))), (qs 6, .inl (T 0, 20, .inl (U 6))), (qs 7, .inl (T 0, 160, .inl (U 7))), (qs 8, .inl (T 0, 20, .inl (U 8))), (qs 9, .inl (T 0, 20, .inl (U 9))), (qs 10, .inl (T 0, 20, .inl (U 10))), (qs 11, .inl (T 0, 6, .inl (U 11))), (qs 12, .inl (T 0, 6, .inl (U 12))), (qs 13, .inl (T 0, 6, .inl (U 13))), (qs 14, .inl (T 0, 6, .inl (U 14))), (qs 15, .inl (T 0, 6, .inl (U 15))), (qs 16, .inl (T 0, 2, .inl (U 16)))] H := hP
        have hD : va_D A [(q 0, .inr (4, [.ref (q 1), .ref (q 2), .int (nI (tAd U mm ch nn k).2.1)])), (q 1, .inl (T 0, 1127, .inl (fun i => nI ((tAd U mm ch nn k).1 i)))), (q 2, .inl (T 0, 161, .inl (upd (S 2) (tAd U mm ch nn k).2.2 (nI mm)))), (qs 0, .inr (3, [.int (U 0 0), .int (U 0 1), .int (U 0 2), .int (U 0 3), .ref (qs 5), .ref (qs 6), .ref (qs 7), .ref (qs 8), .ref (qs 9), .ref (qs 10), .ref (qs 11), .ref (qs 12), .ref (qs 13), .ref (qs 14), .ref (qs 15), .ref (qs 16)])), (qs 5, .inl (T 0, 2, .inl (U 5))), (qs 6, .inl (T 0, 20, .inl (U 6))), (qs 7, .inl (T 0, 160, .inl (U 7))), (qs 8, .inl (T 0, 20, .inl (U 8))), (qs 9, .inl (T 0, 20, .inl (U 9))), (qs 10, .inl (T 0, 20, .inl (U 10))), (qs 11, .inl (T 0, 6, .inl (U 11))), (qs 12, .inl (T 0, 6, .inl (U 12))), (qs 13, .inl (T 0, 6, .inl (U 13))), (qs 14, .inl (T 0, 6, .inl (U 14))), (qs 15, .inl (T 0, 6, .inl (U 15))), (qs 16, .inl (T 0, 2, .inl (U 16)))] := hD
        subst hQ
        have e_7 : (fun i => nI ((tAd U mm ch nn k).1 i)) = fun i => nI ((tAd U mm ch nn (tl mm)).1 i) := (by obtain rfl : k = tl mm := (by omega); rfl)
        have e_8 : (upd (S 2) (tAd U mm ch nn k).2.2 (nI mm)) = upd (S 2) (tAd U mm ch nn (tl mm)).2.2 (nI mm) := (by obtain rfl : k = tl mm := (by omega); rfl)
        have e_9 : nI (tAd U mm ch nn k).2.1 = nI (tAd U mm ch nn (tl mm)).2.1 := (by obtain rfl : k = tl mm := (by omega); rfl)
        rw [e_8, e_7, e_9] at hP hD
        have hP9 : va_P G vwCl (oX4 T q (sa (sa (sc S 2 (nI (tAd U mm ch nn (tl mm)).2.1)) 1 (fun i => nI ((tAd U mm ch nn (tl mm)).1 i))) 2 (upd (S 2) (tAd U mm ch nn (tl mm)).2.2 (nI mm))) ++ oX3 T qs U) H := hP
        have hD9 : va_D A (oX4 T q (sa (sa (sc S 2 (nI (tAd U mm ch nn (tl mm)).2.1)) 1 (fun i => nI ((tAd U mm ch nn (tl mm)).1 i))) 2 (upd (S 2) (tAd U mm ch nn (tl mm)).2.2 (nI mm))) ++ oX3 T qs U) := hD
        exact e_rwv hx hb hr hlocks hS hP9 hD9 dX4_addShape_68
      · skip
        refine lv_aload_n hx hb dX4_addShape_24 rfl (lv_at hl 3 rfl) ?_
        refine lv_iload hx hb dX4_addShape_25 (lv_at hl 1 rfl) ?_
        refine lv_aload_n hx hb dX4_addShape_27 rfl (lv_at hl 4 rfl) ?_
        refine lv_iload_n hx hb dX4_addShape_28 rfl (lv_at hl 5 rfl) ?_
        refine lv_iload hx hb dX4_addShape_29 (lv_at hl 0 rfl) ?_
        refine k_roV (As := [.int (nI mm), .int (nI k)]) (rest := [.int (nI (tAd U mm ch nn k).2.2), .ref (q 0)]) (wc := oX3 T qs U) (d := 0) (v := (U 7) (mm * 8 + k)) cx (c_X3_noteAt l G T A qs U mm k (by omega) (by omega)) (cwV 2 hts gX4_addShape_X3_noteAt rfl rfl rfl (by decide +kernel) ⟨Nat.le_of_ble_eq_true rfl, Nat.le_of_ble_eq_true rfl⟩) (hP.sub (ws' := oX3 T qs U) [3, 4, 5, 6, 7, 8, 9, 10, 11, 12, 13, 14, 15] rfl) hK (hE.kept hS.2.1) (va_recv hK hP (ci := 3) (q0 := 3) rfl rfl) rfl hl.1 rfl (Nat.le_of_ble_eq_true rfl) dX4_addShape_31 ⟨Nat.le_of_ble_eq_true rfl, Nat.le_of_ble_eq_true rfl⟩ ?_
        refine lv_iload_n hx hb dX4_addShape_34 rfl (lv_at hl 2 rfl) ?_
        refine lv_isub hx hb dX4_addShape_35 ?_
        refine lv_bipush (v := nI 7) hx hb dX4_addShape_36 (by decide) ?_
        refine k_roS (As := [.int (((U 7) (mm * 8 + k)) - ((U 7) (mm * 8))), .int (nI 7)]) (rest := [.int (nI (tAd U mm ch nn k).2.2), .ref (q 0)]) (wc := []) (d := 0) (v := pFM (((U 7) (mm * 8 + k)) - ((U 7) (mm * 8))) (nI 7)) cx (c_J9_floorMod_7cf53 l G T A (((U 7) (mm * 8 + k)) - ((U 7) (mm * 8))) (nI 7) (nI_ne0 (by decide) (by decide))) (va_cwS 2 hts gX4_addShape_J9_floorMod_7cf53 rfl rfl rfl (by decide +kernel) ⟨Nat.le_of_ble_eq_true rfl, Nat.le_of_ble_eq_true rfl⟩) (hP.sub (ws' := []) [] rfl) hK (hE.kept hS.2.1) rfl hl.1 rfl (Nat.le_of_ble_eq_true rfl) dX4_addShape_38 ⟨Nat.le_of_ble_eq_true rfl, Nat.le_of_ble_eq_true rfl⟩ ?_
        refine n_top (y := nI (tS U mm k)) (fm7 _).1 ?_
        refine k_rwV (As := [.int (nI (tAd U mm ch nn k).2.2), .int (nI (tS U mm k))]) (rest := []) (wc := oX4 T q (sa (sc S 2 (nI (tAd U mm ch nn k).2.1)) 1 (fun i => nI ((tAd U mm ch nn k).1 i)))) (wr := oX3 T qs U) (w1 := oX4 T q (sa (sc (sa (sc S 2 (nI (tAd U mm ch nn k).2.1)) 1 (fun i => nI ((tAd U mm ch nn k).1 i))) 2 (nI (cfN (tAd U mm ch nn k).1 (tAd U mm ch nn k).2.1 ((tAd U mm ch nn k).2.2 * 7 + (tS U mm k))))) 1 (fun i => nI (cfC (tAd U mm ch nn k).1 (tAd U mm ch nn k).2.1 ((tAd U mm ch nn k).2.2 * 7 + (tS U mm k)) i)))) (d := 0) (mc := 0) (ms := 0) (v := nI (cfC (tAd U mm ch nn k).1 (tAd U mm ch nn k).2.1 ((tAd U mm ch nn k).2.2 * 7 + (tS U mm k)) ((tAd U mm ch nn k).2.2 * 7 + (tS U mm k)))) (isC := [0, 1, 2]) (isR := [3, 4, 5, 6, 7, 8, 9, 10, 11, 12, 13, 14, 15]) cx (c_X4_childFor l G T H.size q (sa (sc S 2 (nI (tAd U mm ch nn k).2.1)) 1 (fun i => nI ((tAd U mm ch nn k).1 i))) (tAd U mm ch nn k).2.2 (tS U mm k) (tAd U mm ch nn k).1 (tAd U mm ch nn k).2.1 (by first | assumption | rfl | omega) (by first | assumption | rfl | omega) hka (by omega) (fm7 _).2) (cwV 2 hts gX4_addShape_X4_childFor rfl rfl rfl (by decide +kernel) ⟨Nat.le_of_ble_eq_true rfl, Nat.le_of_ble_eq_true rfl⟩) ⟨hP, hD, hS, hA, hE, hK, rfl, rfl, rfl, rfl, by decide⟩ (va_recv hK hP (ci := 4) (q0 := 0) rfl rfl) rfl hl.1 rfl (Nat.le_of_ble_eq_true rfl) dX4_addShape_41 ⟨Nat.le_of_ble_eq_true rfl, Nat.le_of_ble_eq_true rfl⟩ (fun H locs hP hD hS hz => ?_)
        have hP : va_P G vwCl [(q 0, .inr (4, [.ref (q 1), .ref (q 2), .int (nI (cfN (tAd U mm ch nn k).1 (tAd U mm ch nn k).2.1 ((tAd U mm ch nn k).2.2 * 7 + (tS U mm k))))])), (q 1, .inl (T 0, 1127, .inl (fun i => nI (cfC (tAd U mm ch nn k).1 (tAd U mm ch nn k).2.1 ((tAd U mm ch nn k).2.2 * 7 + (tS U mm k)) i)))), (q 2, .inl (T 0, 161, .inl (S 2))), (qs 0, .inr (3, [.int (U 0 0), .int (U 0 1), .int (U 0 2), .int (U 0 3), .ref (qs 5), .ref (qs 6), .ref (qs 7), .ref (qs 8), .ref (qs 9), .ref (qs 10), .ref (qs 11), .ref (qs 12), .ref (qs 13), .ref (qs 14), .ref (qs 15), .ref (qs 16)])), (qs 5, .inl (T 0, 2, .inl (U 5))), (qs 6, .inl (T 0, 20, .inl (U 6))), (qs 7, .inl (T 0, 160, .inl (U 7))), (qs 8, .inl (T 0, 20, .inl (U 8))), (qs 9, .inl (T 0, 20, .inl (U 9))), (qs 10, .inl (T 0, 20, .inl (U 10))), (qs 11, .inl (T 0, 6, .inl (U 11))), (qs 12, .inl (T 0, 6, .inl (U 12))), (qs 13, .inl (T 0, 6, .inl (U 13))), (qs 14, .inl (T 0, 6, .inl (U 14))), (qs 15, .inl (T 0, 6, .inl (U 15))), (qs 16, .inl (T 0, 2, .inl (U 16)))] H := kN.sub (is := [13, 14, 15, 0, 1, 2, 3, 4, 5, 6, 7, 8, 9, 10, 11, 12]) hP rfl
        have hD : va_D A [(q 0, .inr (4, [.ref (q 1), .ref (q 2), .int (nI (cfN (tAd U mm ch nn k).1 (tAd U mm ch nn k).2.1 ((tAd U mm ch nn k).2.2 * 7 + (tS U mm k))))])), (q 1, .inl (T 0, 1127, .inl (fun i => nI (cfC (tAd U mm ch nn k).1 (tAd U mm ch nn k).2.1 ((tAd U mm ch nn k).2.2 * 7 + (tS U mm k)) i)))), (q 2, .inl (T 0, 161, .inl (S 2))), (qs 0, .inr (3, [.int (U 0 0), .int (U 0 1), .int (U 0 2), .int (U 0 3), .ref (qs 5), .ref (qs 6), .ref (qs 7), .ref (qs 8), .ref (qs 9), .ref (qs 10), .ref (qs 11), .ref (qs 12), .ref (qs 13), .ref (qs 14), .ref (qs 15), .ref (qs 16)])), (qs 5, .inl (T 0, 2, .inl (U 5))), (qs 6, .inl (T 0, 20, .inl (U 6))), (qs 7, .inl (T 0, 160, .inl (U 7))), (qs 8, .inl (T 0, 20, .inl (U 8))), (qs 9, .inl (T 0, 20, .inl (U 9))), (qs 10, .inl (T 0, 20, .inl (U 10))), (qs 11, .inl (T 0, 6, .inl (U 11))), (qs 12, .inl (T 0, 6, .inl (U 12))), (qs 13, .inl (T 0, 6, .inl (U 13))), (qs 14, .inl (T 0, 6, .inl (U 14))), (qs 15, .inl (T 0, 6, .inl (U 15))), (qs 16, .inl (T 0, 2, .inl (U 16)))] := hD.sub [13, 14, 15, 0, 1, 2, 3, 4, 5, 6, 7, 8, 9, 10, 11, 12] rfl rfl
        refine lv_istore (lv' := [(4, .int (nI (cfC (tAd U mm ch nn k).1 (tAd U mm ch nn k).2.1 ((tAd U mm ch nn k).2.2 * 7 + (tS U mm k)) ((tAd U mm ch nn k).2.2 * 7 + (tS U mm k))))), (5, .int (nI k)), (3, .int ((U 7) (mm * 8))), (0, .ref (q 0)), (1, .ref (qs 0)), (2, .int (nI mm))]) hx hb dX4_addShape_44 hl (by decide) rfl (fun ls hl => ?_)
        refine lv_iinc (v := nI (k + 1)) (lv' := [(5, .int (nI (k + 1))), (4, .int (nI (cfC (tAd U mm ch nn k).1 (tAd U mm ch nn k).2.1 ((tAd U mm ch nn k).2.2 * 7 + (tS U mm k)) ((tAd U mm ch nn k).2.2 * 7 + (tS U mm k))))), (3, .int ((U 7) (mm * 8))), (0, .ref (q 0)), (1, .ref (qs 0)), (2, .int (nI mm))]) hx hb dX4_addShape_46 hl (k := 1) rfl (n_inc k 1 rfl) (by decide) rfl (fun ls hl => ?_)
        refine lv_goto (tgt := 13) hx hb dX4_addShape_49 (by decide) ?_
        have e_10 : (nI (cfC (tAd U mm ch nn k).1 (tAd U mm ch nn k).2.1 ((tAd U mm ch nn k).2.2 * 7 + (tS U mm k)) ((tAd U mm ch nn k).2.2 * 7 + (tS U mm k)))) = nI (tAd U mm ch nn (k + 1)).2.2 := rfl
        have e_11 : (fun i => nI (cfC (tAd U mm ch nn k).1 (tAd U mm ch nn k).2.1 ((tAd U mm ch nn k).2.2 * 7 + (tS U mm k)) i)) = fun i => nI ((tAd U mm ch nn (k + 1)).1 i) := rfl
        have e_12 : (nI (cfN (tAd U mm ch nn k).1 (tAd U mm ch nn k).2.1 ((tAd U mm ch nn k).2.2 * 7 + (tS U mm k)))) = nI (tAd U mm ch nn (k + 1)).2.1 := rfl
        exact ih13 (k + 1) (by omega) (by omega) _ _ _ _ rfl e_10 e_11 e_12 _ _ hP hD hS _ (lv_sub hl [0, 1, 2, 3, 4, 5] rfl)
  exact L13 (tl mm + 1) 0 (by omega) (by omega) _ _ _ _ rfl rfl hch hnn _ _ hP hD hS _ (lv_sub hl [0, 1, 2, 3, 4, 5] rfl)
set_option maxHeartbeats 4000000 in
set_option maxRecDepth 100000 in
theorem c_X4_growFrom (l : Launch) (G : va_G) (T : Nat → ClassId) (sz : Nat) (q : Nat → Nat) (qs : Nat → Nat) (S : Nat → Nat → Int32) (U : Nat → Nat → Int32) (tl : Nat → Nat) (htl : ∀ i : Nat, i < 20 → U 6 i = nI (tl i)) (htl8 : ∀ i : Nat, i < 20 → tl i ≤ 8) : RWv l yX4_growFrom wsX4_growFrom 4 0 0 G T sz (oX4 T q S ++ oX3 T qs U) [.ref (q 0), .ref (qs 0)] (oX4 T q (sa (sa (sc S 2 (nI (tG U tl 20).2.2)) 1 (fun i => nI ((tG U tl 20).1 i))) 2 (tG U tl 20).2.1) ++ oX3 T qs U) := by
  refine Met.ofW (cc := cX4_growFrom) (maxL := 3) (ret := none) (by decide) rfl ?_
  intro p e s m args below meth c s₁ B hml hv
  obtain ⟨ha, hsz, hP, hK, hD0, hE0⟩ := hv
  have hx := B.exec
  have hb := B.bytes
  have hr := B.returns
  have hlocks := B.notSynchronized
  have hts := atoms_spec (ws := wsX4_growFrom) B.pre
  have hown : s.vm.findClass RX4 = some m.cls := findClass_of_methodNamed B.named
  have cx : CallFix p m c cX4_growFrom 3 s args wsX4_growFrom RX4 := ⟨hx, hb, hml, hown, hts⟩
  subst hsz
  have hD := hD0.self (sz := s.heap.size)
  generalize hAe : va_A (oX4 T q S ++ oX3 T qs U) s.heap.size = A at hD hE0 ⊢
  have hE : gE A s s.heap := hE0
  have hA : ∀ q : Nat, s.heap.size ≤ q → A q := fun q h => by rw [← hAe]; exact Or.inr h
  have hS : va_S A s.heap s.heap [] := va_S.rf
  refine w_entry ha (Nat.le_of_ble_eq_true rfl) (fun ls hl => ?_)
  refine w_q (fun Q0 hQ => ?_)
  have lk11 := hts (.fieldLink RX4 11 "WhistleTunes$ShapeTree" "children" "[I") (by decide +kernel)
  have hinX4 : ∀ w ∈ wsX40, w ∈ wsX4_growFrom := by decide +kernel
  have lk15 := hts (.fieldLink RX4 15 "WhistleTunes$ShapeTree" "messages" "[I") (by decide +kernel)
  have lk24 := hts (.fieldLink RX4 24 "WhistleTunes$ShapeTree" "nodes" "I") (by decide +kernel)
  have lk28 := hts (.fieldLink RX4 28 "WhistleTunes$School" "tuneLengths" "[I") (by decide +kernel)
  have hinX3 : ∀ w ∈ wsX30, w ∈ wsX4_growFrom := by decide +kernel
  have hl : lv_has ls 3 [(0, .ref (q 0)), (1, .ref (qs 0))] := hl
  have hP : va_P G vwCl [(q 0, .inr (4, [.ref (q 1), .ref (q 2), .int (S 0 2)])), (q 1, .inl (T 0, 1127, .inl (S 1))), (q 2, .inl (T 0, 161, .inl (S 2))), (qs 0, .inr (3, [.int (U 0 0), .int (U 0 1), .int (U 0 2), .int (U 0 3), .ref (qs 5), .ref (qs 6), .ref (qs 7), .ref (qs 8), .ref (qs 9), .ref (qs 10), .ref (qs 11), .ref (qs 12), .ref (qs 13), .ref (qs 14), .ref (qs 15), .ref (qs 16)])), (qs 5, .inl (T 0, 2, .inl (U 5))), (qs 6, .inl (T 0, 20, .inl (U 6))), (qs 7, .inl (T 0, 160, .inl (U 7))), (qs 8, .inl (T 0, 20, .inl (U 8))), (qs 9, .inl (T 0, 20, .inl (U 9))), (qs 10, .inl (T 0, 20, .inl (U 10))), (qs 11, .inl (T 0, 6, .inl (U 11))), (qs 12, .inl (T 0, 6, .inl (U 12))), (qs 13, .inl (T 0, 6, .inl (U 13))), (qs 14, .inl (T 0, 6, .inl (U 14))), (qs 15, .inl (T 0, 6, .inl (U 15))), (qs 16, .inl (T 0, 2, .inl (U 16)))] s.heap := hP
  have hD : va_D A [(q 0, .inr (4, [.ref (q 1), .ref (q 2), .int (S 0 2)])), (q 1, .inl (T 0, 1127, .inl (S 1))), (q 2, .inl (T 0, 161, .inl (S 2))), (qs 0, .inr (3, [.int (U 0 0), .int (U 0 1), .int (U 0 2), .int (U 0 3), .ref (qs 5), .ref (qs 6), .ref (qs 7), .ref (qs 8), .ref (qs 9), .ref (qs 10), .ref (qs 11), .ref (qs 12), .ref (qs 13), .ref (qs 14), .ref (qs 15), .ref (qs 16)])), (qs 5, .inl (T 0, 2, .inl (U 5))), (qs 6, .inl (T 0, 20, .inl (U 6))), (qs 7, .inl (T 0, 160, .inl (U 7))), (qs 8, .inl (T 0, 20, .inl (U 8))), (qs 9, .inl (T 0, 20, .inl (U 9))), (qs 10, .inl (T 0, 20, .inl (U 10))), (qs 11, .inl (T 0, 6, .inl (U 11))), (qs 12, .inl (T 0, 6, .inl (U 12))), (qs 13, .inl (T 0, 6, .inl (U 13))), (qs 14, .inl (T 0, 6, .inl (U 14))), (qs 15, .inl (T 0, 6, .inl (U 15))), (qs 16, .inl (T 0, 2, .inl (U 16)))] := hD
  skip
  refine w_h (fun H locs hHe hLe => ?_)
  have hP : va_P G vwCl [(q 0, .inr (4, [.ref (q 1), .ref (q 2), .int (S 0 2)])), (q 1, .inl (T 0, 1127, .inl (S 1))), (q 2, .inl (T 0, 161, .inl (S 2))), (qs 0, .inr (3, [.int (U 0 0), .int (U 0 1), .int (U 0 2), .int (U 0 3), .ref (qs 5), .ref (qs 6), .ref (qs 7), .ref (qs 8), .ref (qs 9), .ref (qs 10), .ref (qs 11), .ref (qs 12), .ref (qs 13), .ref (qs 14), .ref (qs 15), .ref (qs 16)])), (qs 5, .inl (T 0, 2, .inl (U 5))), (qs 6, .inl (T 0, 20, .inl (U 6))), (qs 7, .inl (T 0, 160, .inl (U 7))), (qs 8, .inl (T 0, 20, .inl (U 8))), (qs 9, .inl (T 0, 20, .inl (U 9))), (qs 10, .inl (T 0, 20, .inl (U 10))), (qs 11, .inl (T 0, 6, .inl (U 11))), (qs 12, .inl (T 0, 6, .inl (U 12))), (qs 13, .inl (T 0, 6, .inl (U 13))), (qs 14, .inl (T 0, 6, .inl (U 14))), (qs 15, .inl (T 0, 6, .inl (U 15))), (qs 16, .inl (T 0, 2, .inl (U 16)))] H := by rw [hHe]; exact hP
  have hS : va_S A s.heap H locs := by rw [hHe, hLe]; exact hS
  refine lv_aload_n hx hb dX4_growFrom_0 rfl (lv_at hl 0 rfl) ?_
  refine va_get (D := G) (ci := 4) (v := .ref (q 1)) (C := RX4) (T := TX4) (N := 3) hx hb hts hinX4 hown hK hP 0 rfl rfl 0 (by decide) lk11 (fun _ h9 => h9) rfl dX4_growFrom_1 ?_
  refine n_iconst hx hb 0 dX4_growFrom_4 (by decide) ?_
  refine k_rvS (As := [.ref (q 1), .int (nI 0)]) (rest := []) (wc := [(q 1, .inl (T 0, 1127, .inl (S 1)))]) (wr := [(q 0, .inr (4, [.ref (q 1), .ref (q 2), .int (S 0 2)])), (q 2, .inl (T 0, 161, .inl (S 2))), (qs 0, .inr (3, [.int (U 0 0), .int (U 0 1), .int (U 0 2), .int (U 0 3), .ref (qs 5), .ref (qs 6), .ref (qs 7), .ref (qs 8), .ref (qs 9), .ref (qs 10), .ref (qs 11), .ref (qs 12), .ref (qs 13), .ref (qs 14), .ref (qs 15), .ref (qs 16)])), (qs 5, .inl (T 0, 2, .inl (U 5))), (qs 6, .inl (T 0, 20, .inl (U 6))), (qs 7, .inl (T 0, 160, .inl (U 7))), (qs 8, .inl (T 0, 20, .inl (U 8))), (qs 9, .inl (T 0, 20, .inl (U 9))), (qs 10, .inl (T 0, 20, .inl (U 10))), (qs 11, .inl (T 0, 6, .inl (U 11))), (qs 12, .inl (T 0, 6, .inl (U 12))), (qs 13, .inl (T 0, 6, .inl (U 13))), (qs 14, .inl (T 0, 6, .inl (U 14))), (qs 15, .inl (T 0, 6, .inl (U 15))), (qs 16, .inl (T 0, 2, .inl (U 16)))]) (w1 := [(q 1, .inl (T 0, 1127, .inl (fun _ => (nI 0))))]) (d := 0) (mc := 0) (ms := 0) (isC := [1]) (isR := [0, 2, 3, 4, 5, 6, 7, 8, 9, 10, 11, 12, 13, 14, 15]) cx (c_J7_fill_53178 l G T H.size (q 1) (S 1) 1127 (nI 0) (by decide)) (va_cwS 2 hts gX4_growFrom_J7_fill_53178 rfl rfl rfl (by decide +kernel) ⟨Nat.le_of_ble_eq_true rfl, Nat.le_of_ble_eq_true rfl⟩) ⟨hP, hD, hS, hA, hE, hK, rfl, rfl, rfl, rfl, by decide⟩ rfl hl.1 rfl (Nat.le_of_ble_eq_true rfl) dX4_growFrom_5 ⟨Nat.le_of_ble_eq_true rfl, Nat.le_of_ble_eq_true rfl⟩ (fun H locs hP hD hS hz => ?_)
  have hP : va_P G vwCl [(q 0, .inr (4, [.ref (q 1), .ref (q 2), .int (S 0 2)])), (q 1, .inl (T 0, 1127, .inl (fun _ => (nI 0)))), (q 2, .inl (T 0, 161, .inl (S 2))), (qs 0, .inr (3, [.int (U 0 0), .int (U 0 1), .int (U 0 2), .int (U 0 3), .ref (qs 5), .ref (qs 6), .ref (qs 7), .ref (qs 8), .ref (qs 9), .ref (qs 10), .ref (qs 11), .ref (qs 12), .ref (qs 13), .ref (qs 14), .ref (qs 15), .ref (qs 16)])), (qs 5, .inl (T 0, 2, .inl (U 5))), (qs 6, .inl (T 0, 20, .inl (U 6))), (qs 7, .inl (T 0, 160, .inl (U 7))), (qs 8, .inl (T 0, 20, .inl (U 8))), (qs 9, .inl (T 0, 20, .inl (U 9))), (qs 10, .inl (T 0, 20, .inl (U 10))), (qs 11, .inl (T 0, 6, .inl (U 11))), (qs 12, .inl (T 0, 6, .inl (U 12))), (qs 13, .inl (T 0, 6, .inl (U 13))), (qs 14, .inl (T 0, 6, .inl (U 14))), (qs 15, .inl (T 0, 6, .inl (U 15))), (qs 16, .inl (T 0, 2, .inl (U 16)))] H := kN.sub (is := [0, 15, 1, 2, 3, 4, 5, 6, 7, 8, 9, 10, 11, 12, 13, 14]) hP rfl
  have hD : va_D A [(q 0, .inr (4, [.ref (q 1), .ref (q 2), .int (S 0 2)])), (q 1, .inl (T 0, 1127, .inl (fun _ => (nI 0)))), (q 2, .inl (T 0, 161, .inl (S 2))), (qs 0, .inr (3, [.int (U 0 0), .int (U 0 1), .int (U 0 2), .int (U 0 3), .ref (qs 5), .ref (qs 6), .ref (qs 7), .ref (qs 8), .ref (qs 9), .ref (qs 10), .ref (qs 11), .ref (qs 12), .ref (qs 13), .ref (qs 14), .ref (qs 15), .ref (qs 16)])), (qs 5, .inl (T 0, 2, .inl (U 5))), (qs 6, .inl (T 0, 20, .inl (U 6))), (qs 7, .inl (T 0, 160, .inl (U 7))), (qs 8, .inl (T 0, 20, .inl (U 8))), (qs 9, .inl (T 0, 20, .inl (U 9))), (qs 10, .inl (T 0, 20, .inl (U 10))), (qs 11, .inl (T 0, 6, .inl (U 11))), (qs 12, .inl (T 0, 6, .inl (U 12))), (qs 13, .inl (T 0, 6, .inl (U 13))), (qs 14, .inl (T 0, 6, .inl (U 14))), (qs 15, .inl (T 0, 6, .inl (U 15))), (qs 16, .inl (T 0, 2, .inl (U 16)))] := hD.sub [0, 15, 1, 2, 3, 4, 5, 6, 7, 8, 9, 10, 11, 12, 13, 14] rfl rfl
  refine lv_aload_n hx hb dX4_growFrom_8 rfl (lv_at hl 0 rfl) ?_
  refine va_get (D := G) (ci := 4) (v := .ref (q 2)) (C := RX4) (T := TX4) (N := 3) hx hb hts hinX4 hown hK hP 0 rfl rfl 1 (by decide) lk15 (fun _ h9 => h9) rfl dX4_growFrom_9 ?_
  refine lv_iconst (v := -1) hx hb dX4_growFrom_12 (by decide) ?_
  refine k_rvS (As := [.ref (q 2), .int (-1)]) (rest := []) (wc := [(q 2, .inl (T 0, 161, .inl (S 2)))]) (wr := [(q 0, .inr (4, [.ref (q 1), .ref (q 2), .int (S 0 2)])), (q 1, .inl (T 0, 1127, .inl (fun _ => (nI 0)))), (qs 0, .inr (3, [.int (U 0 0), .int (U 0 1), .int (U 0 2), .int (U 0 3), .ref (qs 5), .ref (qs 6), .ref (qs 7), .ref (qs 8), .ref (qs 9), .ref (qs 10), .ref (qs 11), .ref (qs 12), .ref (qs 13), .ref (qs 14), .ref (qs 15), .ref (qs 16)])), (qs 5, .inl (T 0, 2, .inl (U 5))), (qs 6, .inl (T 0, 20, .inl (U 6))), (qs 7, .inl (T 0, 160, .inl (U 7))), (qs 8, .inl (T 0, 20, .inl (U 8))), (qs 9, .inl (T 0, 20, .inl (U 9))), (qs 10, .inl (T 0, 20, .inl (U 10))), (qs 11, .inl (T 0, 6, .inl (U 11))), (qs 12, .inl (T 0, 6, .inl (U 12))), (qs 13, .inl (T 0, 6, .inl (U 13))), (qs 14, .inl (T 0, 6, .inl (U 14))), (qs 15, .inl (T 0, 6, .inl (U 15))), (qs 16, .inl (T 0, 2, .inl (U 16)))]) (w1 := [(q 2, .inl (T 0, 161, .inl (fun _ => (-1))))]) (d := 0) (mc := 0) (ms := 0) (isC := [2]) (isR := [0, 1, 3, 4, 5, 6, 7, 8, 9, 10, 11, 12, 13, 14, 15]) cx (c_J7_fill_53178 l G T H.size (q 2) (S 2) 161 (-1) (by decide)) (va_cwS 2 hts gX4_growFrom_J7_fill_53178 rfl rfl rfl (by decide +kernel) ⟨Nat.le_of_ble_eq_true rfl, Nat.le_of_ble_eq_true rfl⟩) ⟨hP, hD, hS, hA, hE, hK, rfl, rfl, rfl, rfl, by decide⟩ rfl hl.1 rfl (Nat.le_of_ble_eq_true rfl) dX4_growFrom_13 ⟨Nat.le_of_ble_eq_true rfl, Nat.le_of_ble_eq_true rfl⟩ (fun H locs hP hD hS hz => ?_)
  have hP : va_P G vwCl [(q 0, .inr (4, [.ref (q 1), .ref (q 2), .int (S 0 2)])), (q 1, .inl (T 0, 1127, .inl (fun _ => (nI 0)))), (q 2, .inl (T 0, 161, .inl (fun _ => (-1)))), (qs 0, .inr (3, [.int (U 0 0), .int (U 0 1), .int (U 0 2), .int (U 0 3), .ref (qs 5), .ref (qs 6), .ref (qs 7), .ref (qs 8), .ref (qs 9), .ref (qs 10), .ref (qs 11), .ref (qs 12), .ref (qs 13), .ref (qs 14), .ref (qs 15), .ref (qs 16)])), (qs 5, .inl (T 0, 2, .inl (U 5))), (qs 6, .inl (T 0, 20, .inl (U 6))), (qs 7, .inl (T 0, 160, .inl (U 7))), (qs 8, .inl (T 0, 20, .inl (U 8))), (qs 9, .inl (T 0, 20, .inl (U 9))), (qs 10, .inl (T 0, 20, .inl (U 10))), (qs 11, .inl (T 0, 6, .inl (U 11))), (qs 12, .inl (T 0, 6, .inl (U 12))), (qs 13, .inl (T 0, 6, .inl (U 13))), (qs 14, .inl (T 0, 6, .inl (U 14))), (qs 15, .inl (T 0, 6, .inl (U 15))), (qs 16, .inl (T 0, 2, .inl (U 16)))] H := kN.sub (is := [0, 1, 15, 2, 3, 4, 5, 6, 7, 8, 9, 10, 11, 12, 13, 14]) hP rfl
  have hD : va_D A [(q 0, .inr (4, [.ref (q 1), .ref (q 2), .int (S 0 2)])), (q 1, .inl (T 0, 1127, .inl (fun _ => (nI 0)))), (q 2, .inl (T 0, 161, .inl (fun _ => (-1)))), (qs 0, .inr (3, [.int (U 0 0), .int (U 0 1), .int (U 0 2), .int (U 0 3), .ref (qs 5), .ref (qs 6), .ref (qs 7), .ref (qs 8), .ref (qs 9), .ref (qs 10), .ref (qs 11), .ref (qs 12), .ref (qs 13), .ref (qs 14), .ref (qs 15), .ref (qs 16)])), (qs 5, .inl (T 0, 2, .inl (U 5))), (qs 6, .inl (T 0, 20, .inl (U 6))), (qs 7, .inl (T 0, 160, .inl (U 7))), (qs 8, .inl (T 0, 20, .inl (U 8))), (qs 9, .inl (T 0, 20, .inl (U 9))), (qs 10, .inl (T 0, 20, .inl (U 10))), (qs 11, .inl (T 0, 6, .inl (U 11))), (qs 12, .inl (T 0, 6, .inl (U 12))), (qs 13, .inl (T 0, 6, .inl (U 13))), (qs 14, .inl (T 0, 6, .inl (U 14))), (qs 15, .inl (T 0, 6, .inl (U 15))), (qs 16, .inl (T 0, 2, .inl (U 16)))] := hD.sub [0, 1, 15, 2, 3, 4, 5, 6, 7, 8, 9, 10, 11, 12, 13, 14] rfl rfl
  refine lv_aload_n hx hb dX4_growFrom_16 rfl (lv_at hl 0 rfl) ?_
  refine n_iconst hx hb 0 dX4_growFrom_17 (by decide) ?_
  refine va_put (D := G) (ci := 4) (v := .int (nI 0)) (ty := .int) (C := RX4) (T := TX4) (N := 3) hx hb hts hinX4 tyX4 tyX4_ok nmX4 hown hK hP hD hS 0 rfl rfl 2 (by decide) lk24 (fun _ h9 => h9) rfl (by decide +kernel) rfl rfl (Nat.le_of_ble_eq_true rfl) dX4_growFrom_18 (fun H locs hP hD hS => ?_)
  have hP : va_P G vwCl [(q 0, .inr (4, [.ref (q 1), .ref (q 2), .int (nI 0)])), (q 1, .inl (T 0, 1127, .inl (fun _ => (nI 0)))), (q 2, .inl (T 0, 161, .inl (fun _ => (-1)))), (qs 0, .inr (3, [.int (U 0 0), .int (U 0 1), .int (U 0 2), .int (U 0 3), .ref (qs 5), .ref (qs 6), .ref (qs 7), .ref (qs 8), .ref (qs 9), .ref (qs 10), .ref (qs 11), .ref (qs 12), .ref (qs 13), .ref (qs 14), .ref (qs 15), .ref (qs 16)])), (qs 5, .inl (T 0, 2, .inl (U 5))), (qs 6, .inl (T 0, 20, .inl (U 6))), (qs 7, .inl (T 0, 160, .inl (U 7))), (qs 8, .inl (T 0, 20, .inl (U 8))), (qs 9, .inl (T 0, 20, .inl (U 9))), (qs 10, .inl (T 0, 20, .inl (U 10))), (qs 11, .inl (T 0, 6, .inl (U 11))), (qs 12, .inl (T 0, 6, .inl (U 12))), (qs 13, .inl (T 0, 6, .inl (U 13))), (qs 14, .inl (T 0, 6, .inl (U 14))), (qs 15, .inl (T 0, 6, .inl (U 15))), (qs 16, .inl (T 0, 2, .inl (U 16)))] H := hP
  have hD : va_D A [(q 0, .inr (4, [.ref (q 1), .ref (q 2), .int (nI 0)])), (q 1, .inl (T 0, 1127, .inl (fun _ => (nI 0)))), (q 2, .inl (T 0, 161, .inl (fun _ => (-1)))), (qs 0, .inr (3, [.int (U 0 0), .int (U 0 1), .int (U 0 2), .int (U 0 3), .ref (qs 5), .ref (qs 6), .ref (qs 7), .ref (qs 8), .ref (qs 9), .ref (qs 10), .ref (qs 11), .ref (qs 12), .ref (qs 13), .ref (qs 14), .ref (qs 15), .ref (qs 16)])), (qs 5, .inl (T 0, 2, .inl (U 5))), (qs 6, .inl (T 0, 20, .inl (U 6))), (qs 7, .inl (T 0, 160, .inl (U 7))), (qs 8, .inl (T 0, 20, .inl (U 8))), (qs 9, .inl (T 0, 20, .inl (U 9))), (qs 10, .inl (T 0, 20, .inl (U 10))), (qs 11, .inl (T 0, 6, .inl (U 11))), (qs 12, .inl (T 0, 6, .inl (U 12))), (qs 13, .inl (T 0, 6, .inl (U 13))), (qs 14, .inl (T 0, 6, .inl (U 14))), (qs 15, .inl (T 0, 6, .inl (U 15))), (qs 16, .inl (T 0, 2, .inl (U 16)))] := hD
  refine n_iconst hx hb 0 dX4_growFrom_21 (by decide) ?_
  refine lv_istore_n (lv' := [(2, .int (nI 0)), (0, .ref (q 0)), (1, .ref (qs 0))]) hx hb dX4_growFrom_22 rfl hl (by decide) rfl (fun ls hl => ?_)
  have L23 : ∀ (n9 k : Nat) (hk1 : k ≤ 20) (hk2 : 20 - k < n9) (x2 : Int32) (F_1 : Nat → Int32) (F_2 : Nat → Int32) (y_3 : Int32) (hx2 : x2 = nI k) (hF_1 : F_1 = fun i => nI ((tG U tl k).1 i)) (hF_2 : F_2 = (tG U tl k).2.1) (hy_3 : y_3 = nI (tG U tl k).2.2) (H : Heap) (locs : List Loc) (hP : va_P G vwCl [(q 0, .inr (4, [.ref (q 1), .ref (q 2), .int y_3])), (q 1, .inl (T 0, 1127, .inl F_1)), (q 2, .inl (T 0, 161, .inl F_2)), (qs 0, .inr (3, [.int (U 0 0), .int (U 0 1), .int (U 0 2), .int (U 0 3), .ref (qs 5), .ref (qs 6), .ref (qs 7), .ref (qs 8), .ref (qs 9), .ref (qs 10), .ref (qs 11), .ref (qs 12), .ref (qs 13), .ref (qs 14), .ref (qs 15), .ref (qs 16)])), (qs 5, .inl (T 0, 2, .inl (U 5))), (qs 6, .inl (T 0, 20, .inl (U 6))), (qs 7, .inl (T 0, 160, .inl (U 7))), (qs 8, .inl (T 0, 20, .inl (U 8))), (qs 9, .inl (T 0, 20, .inl (U 9))), (qs 10, .inl (T 0, 20, .inl (U 10))), (qs 11, .inl (T 0, 6, .inl (U 11))), (qs 12, .inl (T 0, 6, .inl (U 12))), (qs 13, .inl (T 0, 6, .inl (U 13))), (qs 14, .inl (T 0, 6, .inl (U 14))), (qs 15, .inl (T 0, 6, .inl (U 15))), (qs 16, .inl (T 0, 2, .inl (U 16)))] H) (hD : va_D A [(q 0, .inr (4, [.ref (q 1), .ref (q 2), .int y_3])), (q 1, .inl (T 0, 1127, .inl F_1)), (q 2, .inl (T 0, 161, .inl F_2)), (qs 0, .inr (3, [.int (U 0 0), .int (U 0 1), .int (U 0 2), .int (U 0 3), .ref (qs 5), .ref (qs 6), .ref (qs 7), .ref (qs 8), .ref (qs 9), .ref (qs 10), .ref (qs 11), .ref (qs 12), .ref (qs 13), .ref (qs 14), .ref (qs 15), .ref (qs 16)])), (qs 5, .inl (T 0, 2, .inl (U 5))), (qs 6, .inl (T 0, 20, .inl (U 6))), (qs 7, .inl (T 0, 160, .inl (U 7))), (qs 8, .inl (T 0, 20, .inl (U 8))), (qs 9, .inl (T 0, 20, .inl (U 9))), (qs 10, .inl (T 0, 20, .inl (U 10))), (qs 11, .inl (T 0, 6, .inl (U 11))), (qs 12, .inl (T 0, 6, .inl (U 12))), (qs 13, .inl (T 0, 6, .inl (U 13))), (qs 14, .inl (T 0, 6, .inl (U 14))), (qs 15, .inl (T 0, 6, .inl (U 15))), (qs 16, .inl (T 0, 2, .inl (U 16)))]) (hS : va_S A s.heap H locs) (ls : Array Slot) (hl : lv_has ls 3 [(2, .int x2), (0, .ref (q 0)), (1, .ref (qs 0))]), W p l e (headSpec wsX4_growFrom (rmD 4 0 0)).room s m args below meth c H locs 0 0 Q0 (F0 m 23 ls []) := by
    intro n9
    induction n9 with
    | zero => intros; omega
    | succ n9 ih23 =>
      intro k hk1 hk2 x2 F_1 F_2 y_3 hx2 hF_1 hF_2 hy_3 H locs hP hD hS ls hl
      subst hx2 hF_1 hF_2 hy_3
      refine lv_iload_n hx hb dX4_growFrom_23 rfl (lv_at hl 0 rfl) ?_
      refine lv_bipush (v := nI 20) hx hb dX4_growFrom_24 (by decide) ?_
      refine n_icmp_ge (a := k) (b := 20) (tgt := 50) hx hb (by omega) (by decide) dX4_growFrom_26 (by decide) (fun c_4 => ?_) (fun c_5 => ?_)
      · skip
        subst hQ
        have e_6 : (fun i => nI ((tG U tl k).1 i)) = fun i => nI ((tG U tl 20).1 i) := (by obtain rfl : k = 20 := (by omega); rfl)
        have e_7 : (tG U tl k).2.1 = (tG U tl 20).2.1 := (by obtain rfl : k = 20 := (by omega); rfl)
        have e_8 : nI (tG U tl k).2.2 = nI (tG U tl 20).2.2 := (by obtain rfl : k = 20 := (by omega); rfl)
        rw [e_6, e_8, e_7] at hP hD
        have hP9 : va_P G vwCl (oX4 T q (sa (sa (sc S 2 (nI (tG U tl 20).2.2)) 1 (fun i => nI ((tG U tl 20).1 i))) 2 (tG U tl 20).2.1) ++ oX3 T qs U) H := hP
        have hD9 : va_D A (oX4 T q (sa (sa (sc S 2 (nI (tG U tl 20).2.2)) 1 (fun i => nI ((tG U tl 20).1 i))) 2 (tG U tl 20).2.1) ++ oX3 T qs U) := hD
        exact e_rwv hx hb hr hlocks hS hP9 hD9 dX4_growFrom_50
      · skip
        refine lv_aload_n hx hb dX4_growFrom_29 rfl (lv_at hl 2 rfl) ?_
        refine va_get (D := G) (ci := 3) (v := .ref (qs 6)) (C := RX3) (T := TX3) (N := 16) hx hb hts hinX3 hown hK hP 3 rfl rfl 5 (by decide) lk28 (fun _ h9 => h9) rfl dX4_growFrom_30 ?_
        refine lv_iload_n hx hb dX4_growFrom_33 rfl (lv_at hl 0 rfl) ?_
        refine n_iald hx hb hK hP 5 0 rfl rfl k (by omega) (by decide) dX4_growFrom_34 ?_
        refine n_top (y := nI (tl k)) (htl k (by omega)) ?_
        have htk := htl8 k (by omega)
        refine n_if_le (a := tl k) (tgt := 44) hx hb (by omega) dX4_growFrom_35 (by decide) (fun c_9 => ?_) (fun c_10 => ?_)
        · skip
          refine lv_iinc (v := nI (k + 1)) (lv' := [(2, .int (nI (k + 1))), (0, .ref (q 0)), (1, .ref (qs 0))]) hx hb dX4_growFrom_44 hl (k := 0) rfl (n_inc k 1 rfl) (by decide) rfl (fun ls hl => ?_)
          refine lv_goto (tgt := 23) hx hb dX4_growFrom_47 (by decide) ?_
          have e_11 : (fun i => nI ((tG U tl k).1 i)) = fun i => nI ((tG U tl (k + 1)).1 i) := (by first | (rw [tG_1 (by omega)]; done) | (rw [tG_2 (by omega)]; done))
          have e_12 : (tG U tl k).2.1 = (tG U tl (k + 1)).2.1 := (by first | (rw [tG_1 (by omega)]; done) | (rw [tG_2 (by omega)]; done))
          have e_13 : (nI (tG U tl k).2.2) = nI (tG U tl (k + 1)).2.2 := (by first | (rw [tG_1 (by omega)]; done) | (rw [tG_2 (by omega)]; done))
          exact ih23 (k + 1) (by omega) (by omega) _ _ _ _ rfl e_11 e_12 e_13 _ _ hP hD hS _ (lv_sub hl [0, 1, 2] rfl)
        · skip
          refine lv_aload_n hx hb dX4_growFrom_38 rfl (lv_at hl 1 rfl) ?_
          refine lv_aload_n hx hb dX4_growFrom_39 rfl (lv_at hl 2 rfl) ?_
          refine lv_iload_n hx hb dX4_growFrom_40 rfl (lv_at hl 0 rfl) ?_
          refine k_rvV (As := [.ref (qs 0), .int (nI k)]) (rest := []) (wc := oX4 T q (sa (sa (sc S 2 (nI (tG U tl k).2.2)) 1 (fun i => nI ((tG U tl k).1 i))) 2 (tG U tl k).2.1) ++ oX3 T qs U) (wr := []) (w1 := oX4 T q (sa (sa (sc (sa (sa (sc S 2 (nI (tG U tl k).2.2)) 1 (fun i => nI ((tG U tl k).1 i))) 2 (tG U tl k).2.1) 2 (nI (tAd U k (tG U tl k).1 (tG U tl k).2.2 (tl k)).2.1)) 1 (fun i => nI ((tAd U k (tG U tl k).1 (tG U tl k).2.2 (tl k)).1 i))) 2 (upd ((sa (sa (sc S 2 (nI (tG U tl k).2.2)) 1 (fun i => nI ((tG U tl k).1 i))) 2 (tG U tl k).2.1) 2) (tAd U k (tG U tl k).1 (tG U tl k).2.2 (tl k)).2.2 (nI k))) ++ oX3 T qs U) (d := 3) (mc := 0) (ms := 0) (isC := [0, 1, 2, 3, 4, 5, 6, 7, 8, 9, 10, 11, 12, 13, 14, 15]) (isR := []) cx (c_X4_addShape l G T H.size q qs (sa (sa (sc S 2 (nI (tG U tl k).2.2)) 1 (fun i => nI ((tG U tl k).1 i))) 2 (tG U tl k).2.1) U k tl (tG U tl k).1 (tG U tl k).2.2 (by omega) htl htl8 (by first | assumption | rfl | omega) (by first | assumption | rfl | omega) (tG_ok U tl k)) (cwV 2 hts gX4_growFrom_X4_addShape rfl rfl rfl (by decide +kernel) ⟨Nat.le_of_ble_eq_true rfl, Nat.le_of_ble_eq_true rfl⟩) ⟨hP, hD, hS, hA, hE, hK, rfl, rfl, rfl, rfl, by decide⟩ (va_recv hK hP (ci := 4) (q0 := 0) rfl rfl) rfl hl.1 rfl (Nat.le_of_ble_eq_true rfl) dX4_growFrom_41 ⟨Nat.le_of_ble_eq_true rfl, Nat.le_of_ble_eq_true rfl⟩ (fun H locs hP hD hS hz => ?_)
          have hP : va_P G vwCl [(q 0, .inr (4, [.ref (q 1), .ref (q 2), .int (nI (tAd U k (tG U tl k).1 (tG U tl k).2.2 (tl k)).2.1)])), (q 1, .inl (T 0, 1127, .inl (fun i => nI ((tAd U k (tG U tl k).1 (tG U tl k).2.2 (tl k)).1 i)))), (q 2, .inl (T 0, 161, .inl (upd ((tG U tl k).2.1) (tAd U k (tG U tl k).1 (tG U tl k).2.2 (tl k)).2.2 (nI k)))), (qs 0, .inr (3, [.int (U 0 0), .int (U 0 1), .int (U 0 2), .int (U 0 3), .ref (qs 5), .ref (qs 6), .ref (qs 7), .ref (qs 8), .ref (qs 9), .ref (qs 10), .ref (qs 11), .ref (qs 12), .ref (qs 13), .ref (qs 14), .ref (qs 15), .ref (qs 16)])), (qs 5, .inl (T 0, 2, .inl (U 5))), (qs 6, .inl (T 0, 20, .inl (U 6))), (qs 7, .inl (T 0, 160, .inl (U 7))), (qs 8, .inl (T 0, 20, .inl (U 8))), (qs 9, .inl (T 0, 20, .inl (U 9))), (qs 10, .inl (T 0, 20, .inl (U 10))), (qs 11, .inl (T 0, 6, .inl (U 11))), (qs 12, .inl (T 0, 6, .inl (U 12))), (qs 13, .inl (T 0, 6, .inl (U 13))), (qs 14, .inl (T 0, 6, .inl (U 14))), (qs 15, .inl (T 0, 6, .inl (U 15))), (qs 16, .inl (T 0, 2, .inl (U 16)))] H := hP
          have hD : va_D A [(q 0, .inr (4, [.ref (q 1), .ref (q 2), .int (nI (tAd U k (tG U tl k).1 (tG U tl k).2.2 (tl k)).2.1)])), (q 1, .inl (T 0, 1127, .inl (fun i => nI ((tAd U k (tG U tl k).1 (tG U tl k).2.2 (tl k)).1 i)))), (q 2, .inl (T 0, 161, .inl (upd ((tG U tl k).2.1) (tAd U k (tG U tl k).1 (tG U tl k).2.2 (tl k)).2.2 (nI k)))), (qs 0, .inr (3, [.int (U 0 0), .int (U 0 1), .int (U 0 2), .int (U 0 3), .ref (qs 5), .ref (qs 6), .ref (qs 7), .ref (qs 8), .ref (qs 9), .ref (qs 10), .ref (qs 11), .ref (qs 12), .ref (qs 13), .ref (qs 14), .ref (qs 15), .ref (qs 16)])), (qs 5, .inl (T 0, 2, .inl (U 5))), (qs 6, .inl (T 0, 20, .inl (U 6))), (qs 7, .inl (T 0, 160, .inl (U 7))), (qs 8, .inl (T 0, 20, .inl (U 8))), (qs 9, .inl (T 0, 20, .inl (U 9))), (qs 10, .inl (T 0, 20, .inl (U 10))), (qs 11, .inl (T 0, 6, .inl (U 11))), (qs 12, .inl (T 0, 6, .inl (U 12))), (qs 13, .inl (T 0, 6, .inl (U 13))), (qs 14, .inl (T 0, 6, .inl (U 14))), (qs 15, .inl (T 0, 6, .inl (U 15))), (qs 16, .inl (T 0, 2, .inl (U 16)))] := hD
          refine lv_iinc (v := nI (k + 1)) (lv' := [(2, .int (nI (k + 1))), (0, .ref (q 0)), (1, .ref (qs 0))]) hx hb dX4_growFrom_44 hl (k := 0) rfl (n_inc k 1 rfl) (by decide) rfl (fun ls hl => ?_)
          refine lv_goto (tgt := 23) hx hb dX4_growFrom_47 (by decide) ?_
          have e_14 : (fun i => nI ((tAd U k (tG U tl k).1 (tG U tl k).2.2 (tl k)).1 i)) = fun i => nI ((tG U tl (k + 1)).1 i) := (by first | (rw [tG_1 (by omega)]; done) | (rw [tG_2 (by omega)]; done))
          have e_15 : (upd ((tG U tl k).2.1) (tAd U k (tG U tl k).1 (tG U tl k).2.2 (tl k)).2.2 (nI k)) = (tG U tl (k + 1)).2.1 := (by first | (rw [tG_1 (by omega)]; done) | (rw [tG_2 (by omega)]; done))
          have e_16 : (nI (tAd U k (tG U tl k).1 (tG U tl k).2.2 (tl k)).2.1) = nI (tG U tl (k + 1)).2.2 := (by first | (rw [tG_1 (by omega)]; done) | (rw [tG_2 (by omega)]; done))
          exact ih23 (k + 1) (by omega) (by omega) _ _ _ _ rfl e_14 e_15 e_16 _ _ hP hD hS _ (lv_sub hl [0, 1, 2] rfl)
  exact L23 (20 + 1) 0 (by omega) (by omega) _ _ _ _ rfl rfl rfl rfl _ _ hP hD hS _ (lv_sub hl [0, 1, 2] rfl)
set_option maxHeartbeats 4000000 in
set_option maxRecDepth 100000 in
theorem c_X4_messageOf (l : Launch) (G : va_G) (T : Nat → ClassId) (A : Nat → Prop) (q : Nat → Nat) (u : Nat → Nat) (S : Nat → Nat → Int32) (X : Nat → Nat → Int32) (n : Nat) (ch : Nat → Nat) (hlen : X 0 2 = nI n) (hn9 : n ≤ 9) (hch : S 1 = fun i => nI (ch i)) (hcb : ∀ e : Nat, ch e ≤ 160) : RO l yX4_messageOf wsX4_messageOf 2 G T A (oX4 T q S ++ oX6 T u X) [.ref (q 0), .ref (u 0)] (mOf ch (S 2) (nSh (X 1)) n 0 0) := by
  refine Met.ofW (cc := cX4_messageOf) (maxL := 4) (ret := (some .int)) (by decide) rfl ?_
  intro p e s m args below meth c s₁ B hml hv
  obtain ⟨ha, hP, hK, hE⟩ := hv
  have hx := B.exec
  have hb := B.bytes
  have hr := B.returns
  have hlocks := B.notSynchronized
  have hts := atoms_spec (ws := wsX4_messageOf) B.pre
  have hown : s.vm.findClass RX4 = some m.cls := findClass_of_methodNamed B.named
  have cx : CallFix p m c cX4_messageOf 4 s args wsX4_messageOf RX4 := ⟨hx, hb, hml, hown, hts⟩
  refine w_entry ha (Nat.le_of_ble_eq_true rfl) (fun ls hl => ?_)
  refine w_q (fun Q0 hQ => ?_)
  have lk37 := hts (.fieldLink RX4 37 "WhistleTunes$Tune" "length" "I") (by decide +kernel)
  have hinX6 : ∀ w ∈ wsX60, w ∈ wsX4_messageOf := by decide +kernel
  have lk15 := hts (.fieldLink RX4 15 "WhistleTunes$ShapeTree" "messages" "[I") (by decide +kernel)
  have hinX4 : ∀ w ∈ wsX40, w ∈ wsX4_messageOf := by decide +kernel
  have hl : lv_has ls 4 [(0, .ref (q 0)), (1, .ref (u 0))] := hl
  have hP : va_P G vwCl [(q 0, .inr (4, [.ref (q 1), .ref (q 2), .int (S 0 2)])), (q 1, .inl (T 0, 1127, .inl (S 1))), (q 2, .inl (T 0, 161, .inl (S 2))), (u 0, .inr (6, [.ref (u 1), .ref (u 2), .int (X 0 2)])), (u 1, .inl (T 0, 9, .inl (X 1))), (u 2, .inl (T 0, 3, .inl (X 2)))] s.heap := hP
  refine n_iconst hx hb 0 dX4_messageOf_0 (by decide) ?_
  refine lv_istore_n (lv' := [(2, .int (nI 0)), (0, .ref (q 0)), (1, .ref (u 0))]) hx hb dX4_messageOf_1 rfl hl (by decide) rfl (fun ls hl => ?_)
  refine n_iconst hx hb 0 dX4_messageOf_2 (by decide) ?_
  refine lv_istore_n (lv' := [(3, .int (nI 0)), (2, .int (nI 0)), (0, .ref (q 0)), (1, .ref (u 0))]) hx hb dX4_messageOf_3 rfl hl (by decide) rfl (fun ls hl => ?_)
  have L4 : ∀ (n9 k : Nat) (hk1 : k ≤ n) (hk2 : n - k < n9) (nd : Nat) (hnd : nd ≤ 160) (hmo : mOf ch (S 2) (nSh (X 1)) n 0 0 = mOf ch (S 2) (nSh (X 1)) (n - k) nd k) (x3 : Int32) (x2 : Int32) (hx3 : x3 = nI k) (hx2 : x2 = nI nd) (ls : Array Slot) (hl : lv_has ls 4 [(3, .int x3), (2, .int x2), (0, .ref (q 0)), (1, .ref (u 0))]), W p l e (headSpec wsX4_messageOf (rmD 2 0 0)).room s m args below meth c s.heap [] 0 0 Q0 (F0 m 4 ls []) := by
    intro n9
    induction n9 with
    | zero => intros; omega
    | succ n9 ih4 =>
      intro k hk1 hk2 nd hnd hmo x3 x2 hx3 hx2 ls hl
      subst hx3 hx2
      refine lv_iload_n hx hb dX4_messageOf_4 rfl (lv_at hl 0 rfl) ?_
      refine lv_aload_n hx hb dX4_messageOf_5 rfl (lv_at hl 3 rfl) ?_
      refine va_get (D := G) (ci := 6) (v := .int (X 0 2)) (C := RX6) (T := TX6) (N := 3) hx hb hts hinX6 hown hK hP 3 rfl rfl 2 (by decide) lk37 (fun _ h9 => h9) rfl dX4_messageOf_6 ?_
      refine n_top (y := nI n) hlen ?_
      refine n_icmp_ge (a := k) (b := n) (tgt := 35) hx hb (by omega) (by omega) dX4_messageOf_9 (by decide) (fun c_1 => ?_) (fun c_2 => ?_)
      · skip
        refine lv_iload_n hx hb dX4_messageOf_35 rfl (lv_at hl 1 rfl) ?_
        refine lv_sipush (v := nI 161) hx hb dX4_messageOf_36 (by decide) ?_
        refine n_icmp_ge (a := nd) (b := 161) (tgt := 51) hx hb (by omega) (by decide) dX4_messageOf_39 (by decide) (fun c_3 => by exfalso; omega) (fun c_4 => ?_)
        refine lv_aload_n hx hb dX4_messageOf_42 rfl (lv_at hl 2 rfl) ?_
        refine va_get (D := G) (ci := 4) (v := .ref (q 2)) (C := RX4) (T := TX4) (N := 3) hx hb hts hinX4 hown hK hP 0 rfl rfl 1 (by decide) lk15 (fun _ h9 => h9) rfl dX4_messageOf_43 ?_
        refine lv_iload_n hx hb dX4_messageOf_46 rfl (lv_at hl 1 rfl) ?_
        refine n_iald hx hb hK hP 2 0 rfl rfl nd (by omega) (by decide) dX4_messageOf_47 ?_
        refine lv_goto (tgt := 52) hx hb dX4_messageOf_48 (by decide) ?_
        subst hQ
        exact e_ro hx hb hr hlocks (by obtain rfl : k = n := (by omega); rw [hmo, Nat.sub_self]; rfl) dX4_messageOf_52
      · skip
        refine lv_aload_n hx hb dX4_messageOf_12 rfl (lv_at hl 2 rfl) ?_
        refine lv_iload_n hx hb dX4_messageOf_13 rfl (lv_at hl 1 rfl) ?_
        refine lv_aload_n hx hb dX4_messageOf_14 rfl (lv_at hl 3 rfl) ?_
        refine lv_iload_n hx hb dX4_messageOf_15 rfl (lv_at hl 0 rfl) ?_
        refine k_roV (As := [.int (nI k)]) (rest := [.int (nI nd), .ref (q 0)]) (wc := oX6 T u X) (d := 1) (v := pFM ((X 1) k - (X 1) 0) (nI 7)) cx (c_X6_shapeAt l G T A u X k (by omega)) (cwV 1 hts gX4_messageOf_X6_shapeAt rfl rfl rfl (by decide +kernel) ⟨Nat.le_of_ble_eq_true rfl, Nat.le_of_ble_eq_true rfl⟩) (hP.sub (ws' := oX6 T u X) [3, 4, 5] rfl) hK hE (va_recv hK hP (ci := 6) (q0 := 3) rfl rfl) rfl hl.1 rfl (Nat.le_of_ble_eq_true rfl) dX4_messageOf_16 ⟨Nat.le_of_ble_eq_true rfl, Nat.le_of_ble_eq_true rfl⟩ ?_
        refine n_top (y := nI (nSh (X 1) k)) (fm7 _).1 ?_
        refine k_roV (As := [.int (nI nd), .int (nI (nSh (X 1) k))]) (rest := []) (wc := oX4 T q S) (d := 0) (v := nI (ch (nd * 7 + (nSh (X 1) k)))) cx (c_X4_childOf l G T A q S nd (nSh (X 1) k) ch hch (by omega) (fm7 _).2) (cwV 2 hts gX4_messageOf_X4_childOf rfl rfl rfl (by decide +kernel) ⟨Nat.le_of_ble_eq_true rfl, Nat.le_of_ble_eq_true rfl⟩) (hP.sub (ws' := oX4 T q S) [0, 1, 2] rfl) hK hE (va_recv hK hP (ci := 4) (q0 := 0) rfl rfl) rfl hl.1 rfl (Nat.le_of_ble_eq_true rfl) dX4_messageOf_19 ⟨Nat.le_of_ble_eq_true rfl, Nat.le_of_ble_eq_true rfl⟩ ?_
        have hcbk := hcb (nd * 7 + nSh (X 1) k)
        refine lv_istore_n (lv' := [(2, .int (nI (ch (nd * 7 + (nSh (X 1) k))))), (3, .int (nI k)), (0, .ref (q 0)), (1, .ref (u 0))]) hx hb dX4_messageOf_22 rfl hl (by decide) rfl (fun ls hl => ?_)
        refine lv_iload_n hx hb dX4_messageOf_23 rfl (lv_at hl 0 rfl) ?_
        refine n_if_ne (a := ch (nd * 7 + (nSh (X 1) k))) (tgt := 29) hx hb (by omega) dX4_messageOf_24 (by decide) (fun c_5 => ?_) (fun c_6 => ?_)
        · skip
          refine lv_iinc (v := nI (k + 1)) (lv' := [(3, .int (nI (k + 1))), (2, .int (nI (ch (nd * 7 + (nSh (X 1) k))))), (0, .ref (q 0)), (1, .ref (u 0))]) hx hb dX4_messageOf_29 hl (k := 1) rfl (n_inc k 1 rfl) (by decide) rfl (fun ls hl => ?_)
          refine lv_goto (tgt := 4) hx hb dX4_messageOf_32 (by decide) ?_
          exact ih4 (k + 1) (by omega) (by omega) (ch (nd * 7 + (nSh (X 1) k))) (hcb _) (hmo.trans (mOf_s (by omega) (by assumption))) _ _ rfl rfl _ (lv_sub hl [0, 1, 2, 3] rfl)
        · skip
          refine lv_iconst (v := -1) hx hb dX4_messageOf_27 (by decide) ?_
          subst hQ
          exact e_ro hx hb hr hlocks (by rw [hmo, mOf_z (by omega) (by assumption)]) dX4_messageOf_28
  exact L4 (n + 1) 0 (by omega) (by omega) 0 (by omega) rfl _ _ rfl rfl _ (lv_sub hl [0, 1, 2, 3] rfl)
