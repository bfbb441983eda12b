/-! WhistleTunes: text, tune, tree, snapshot, undo (pure), then their contracts (printed by wip/p33/s39.py) -/
/-- the grammar behind a reading -/
def gGr (Gg : Nat → Nat → Int32) (cd : Nat → Nat) (n st : Nat) (ev : Bool) : Nat → Nat → Int32 := sc (sc (sc Gg 0 (nI (gS cd n st ev (gEn cd n st ev)).1)) 1 (nI (gS cd n st ev (gEn cd n st ev)).2)) 2 (bI ev)
/-- the tune behind a reading -/
def tTu (U : Nat → Nat → Int32) (cd : Nat → Nat) (n a b : Nat) : Nat → Nat → Int32 := sa (sa (sc U 2 (nI (tV cd n a (U 1) (U 2) (b - a)).2.1)) 1 (tV cd n a (U 1) (U 2) (b - a)).1) 2 (tV cd n a (U 1) (U 2) (b - a)).2.2.1
/-- is the text a tune? -/
def bT (cd : Nat → Nat) (n : Nat) : Bool := decide (¬ gEr cd n 4 false < n ∧ gMay (gS cd n 4 false (gEn cd n 4 false)).1 (gS cd n 4 false (gEn cd n 4 false)).2 = true)
theorem bT_1 (cd : Nat → Nat) (n : Nat) (h : gEr cd n 4 false < n) : bT cd n = false := decide_eq_false (fun q => q.1 h)
theorem bT_2 (cd : Nat → Nat) (n : Nat) (h : gMay (gS cd n 4 false (gEn cd n 4 false)).1 (gS cd n 4 false (gEn cd n 4 false)).2 = false) : bT cd n = false := decide_eq_false (fun q => by rw [h] at q; cases q.2)
theorem bT_3 (cd : Nat → Nat) (n : Nat) (h : n ≤ gEr cd n 4 false) (h2 : gMay (gS cd n 4 false (gEn cd n 4 false)).1 (gS cd n 4 false (gEn cd n 4 false)).2 = true) : bT cd n = true := decide_eq_true ⟨by omega, h2⟩
def rTu (U : Nat → Nat → Int32) (cd : Nat → Nat) (n : Nat) : Nat → Nat → Int32 := if bT cd n = true then tTu U cd n 0 n else U
theorem rTu_1 (U : Nat → Nat → Int32) {cd : Nat → Nat} {n : Nat} (h : bT cd n = true) : rTu U cd n = tTu U cd n 0 n := if_pos h
theorem rTu_2 (U : Nat → Nat → Int32) {cd : Nat → Nat} {n : Nat} (h : bT cd n = false) : rTu U cd n = U := if_neg (by rw [h]; decide)
/-- the tree grown from the school -/
def gTr (K S : Nat → Nat → Int32) (tl : Nat → Nat) : Nat → Nat → Int32 := sa (sa (sc K 2 (nI (tG S tl 20).2.2)) 1 (fun i => nI ((tG S tl 20).1 i))) 2 (tG S tl 20).2.1
/-- the message of the tune's shape, by the tree -/
abbrev mShp (S : Nat → Nat → Int32) (tl : Nat → Nat) (U : Nat → Nat → Int32) (nt : Nat) : Int32 := mOf (tG S tl 20).1 (tG S tl 20).2.1 (nSh (U 1)) nt 0 0
def gTO (K S : Nat → Nat → Int32) (tl : Nat → Nat) (nt : Nat) : Nat → Nat → Int32 := if decide (2 ≤ nt ∧ nt ≤ 8) = true then gTr K S tl else K
theorem gTO_1 (K S : Nat → Nat → Int32) (tl : Nat → Nat) (nt : Nat) (h : decide (2 ≤ nt ∧ nt ≤ 8) = true) : gTO K S tl nt = gTr K S tl := if_pos h
theorem gTO_2 (K S : Nat → Nat → Int32) (tl : Nat → Nat) (nt : Nat) (h : decide (2 ≤ nt ∧ nt ≤ 8) = false) : gTO K S tl nt = K := if_neg (by rw [h]; decide)
def pRA (S : Nat → Nat → Int32) (tl : Nat → Nat) (U : Nat → Nat → Int32) (nt m : Nat) : Int32 := if decide (2 ≤ nt ∧ nt ≤ 8) = true then (if mShp S tl U nt = -1 ∨ mShp S tl U nt = nI m then nI 0 else nI 4) else nI 3
theorem pRA_3 (S : Nat → Nat → Int32) (tl : Nat → Nat) (U : Nat → Nat → Int32) (nt m : Nat) (h : decide (2 ≤ nt ∧ nt ≤ 8) = false) : nI 3 = pRA S tl U nt m := (if_neg (by rw [h]; decide)).symm
theorem pRA_0 (S : Nat → Nat → Int32) (tl : Nat → Nat) (U : Nat → Nat → Int32) (nt m : Nat) (h : decide (2 ≤ nt ∧ nt ≤ 8) = true) (h2 : mShp S tl U nt = -1 ∨ mShp S tl U nt = nI m) : nI 0 = pRA S tl U nt m := ((if_pos h).trans (if_pos h2)).symm
theorem pRA_4 (S : Nat → Nat → Int32) (tl : Nat → Nat) (U : Nat → Nat → Int32) (nt m : Nat) (h : decide (2 ≤ nt ∧ nt ≤ 8) = true) (h2 : ¬ mShp S tl U nt = -1) (h3 : ¬ mShp S tl U nt = nI m) : nI 4 = pRA S tl U nt m := ((if_pos h).trans (if_neg (fun q => q.elim h2 h3))).symm
def pMS (S : Nat → Nat → Int32) (tl : Nat → Nat) (U : Nat → Nat → Int32) (nt : Nat) : Int32 := if decide (2 ≤ nt ∧ nt ≤ 8) = true then mShp S tl U nt else -1
theorem pMS_1 (S : Nat → Nat → Int32) (tl : Nat → Nat) (U : Nat → Nat → Int32) (nt : Nat) (h : decide (2 ≤ nt ∧ nt ≤ 8) = true) : mShp S tl U nt = pMS S tl U nt := (if_pos h).symm
theorem pMS_2 (S : Nat → Nat → Int32) (tl : Nat → Nat) (U : Nat → Nat → Int32) (nt : Nat) (h : decide (2 ≤ nt ∧ nt ≤ 8) = false) : -1 = pMS S tl U nt := (if_neg (by rw [h]; decide)).symm

set_option maxHeartbeats 4000000 in
set_option maxRecDepth 100000 in
theorem c_X7_append (l : Launch) (G : va_G) (T : Nat → ClassId) (sz : Nat) (w : Nat → Nat) (q : Nat → Nat) (qz : Nat → Nat) (h : Nat → Nat) (t : Nat → Nat) (gr : Nat → Nat) (u : Nat → Nat) (tr : Nat → Nat) (oc : Nat → Nat) (Sw : Nat → Nat → Int32) (X : Nat → Nat → Int32) (n : Nat) (cc : Nat) (hlen : X 0 1 = nI n) (hn60 : n ≤ 60) (hn59 : n < 60) (hc33 : 33 ≤ cc) (hc126 : cc ≤ 126) : RWi l yX7_append wsX7_append 2 0 0 G T sz (oX7 w q qz h t gr u tr oc Sw ++ oX5 T t X) [.ref (w 0), .int (nI cc)] (nI (n + 1)) (oX7 w q qz h t gr u tr oc Sw ++ oX5 T t (sa (sc X 1 (nI (n + 1))) 1 (upd (X 1) n (nI cc)))) := by
  refine Met.ofW (cc := cX7_append) (maxL := 2) (ret := (some .int)) (by decide) rfl ?_
  intro p e s m args below meth c s₁ B hml hv
  obtain ⟨ha, hsz, hP, hK, hD0, hE0⟩ := hv
  have hx := B.exec
  have hb := B.bytes
  have hr := B.returns
  have hlocks := B.notSynchronized
  have hts := atoms_spec (ws := wsX7_append) B.pre
  have hown : s.vm.findClass RX7 = some m.cls := findClass_of_methodNamed B.named
  have cx : CallFix p m c cX7_append 2 s args wsX7_append RX7 := ⟨hx, hb, hml, hown, hts⟩
  subst hsz
  have hD := hD0.self (sz := s.heap.size)
  generalize hAe : va_A (oX7 w q qz h t gr u tr oc Sw ++ oX5 T t X) s.heap.size = A at hD hE0 ⊢
  have hE : gE A s s.heap := hE0
  have hA : ∀ q : Nat, s.heap.size ≤ q → A q := fun q h => by rw [← hAe]; exact Or.inr h
  have hS : va_S A s.heap s.heap [] := va_S.rf
  refine w_entry ha (Nat.le_of_ble_eq_true rfl) (fun ls hl => ?_)
  refine w_q (fun Q0 hQ => ?_)
  have lk29 := hts (.fieldLink RX7 29 "WhistleTunes" "text" "LWhistleTunes$Text;") (by decide +kernel)
  have hinX7 : ∀ w ∈ wsX70, w ∈ wsX7_append := by decide +kernel
  have lk177 := hts (.fieldLink RX7 177 "WhistleTunes$Text" "length" "I") (by decide +kernel)
  have hinX5 : ∀ w ∈ wsX50, w ∈ wsX7_append := by decide +kernel
  have hl : lv_has ls 2 [(0, .ref (w 0)), (1, .int (nI cc))] := hl
  have hP : va_P G vwCl [(w 0, .inr (7, [.ref (q 0), .ref (qz 0), .ref (h 0), .ref (t 0), .ref (gr 0), .ref (u 0), .ref (tr 0), .ref (oc 0), .int (Sw 0 8)])), (t 0, .inr (5, [.ref (t 1), .int (X 0 1)])), (t 1, .inl (T 1, 60, .inl (X 1)))] s.heap := hP
  have hD : va_D A [(w 0, .inr (7, [.ref (q 0), .ref (qz 0), .ref (h 0), .ref (t 0), .ref (gr 0), .ref (u 0), .ref (tr 0), .ref (oc 0), .int (Sw 0 8)])), (t 0, .inr (5, [.ref (t 1), .int (X 0 1)])), (t 1, .inl (T 1, 60, .inl (X 1)))] := hD
  skip
  refine w_h (fun H locs hHe hLe => ?_)
  have hP : va_P G vwCl [(w 0, .inr (7, [.ref (q 0), .ref (qz 0), .ref (h 0), .ref (t 0), .ref (gr 0), .ref (u 0), .ref (tr 0), .ref (oc 0), .int (Sw 0 8)])), (t 0, .inr (5, [.ref (t 1), .int (X 0 1)])), (t 1, .inl (T 1, 60, .inl (X 1)))] H := by rw [hHe]; exact hP
  have hS : va_S A s.heap H locs := by rw [hHe, hLe]; exact hS
  refine lv_iload_n hx hb dX7_append_0 rfl (lv_at hl 1 rfl) ?_
  refine lv_bipush (v := nI 33) hx hb dX7_append_1 (by decide) ?_
  refine n_icmp_lt (a := cc) (b := 33) (tgt := 12) hx hb (by omega) (by decide) dX7_append_3 (by decide) (fun c_1 => by exfalso; omega) (fun c_2 => ?_)
  refine lv_iload_n hx hb dX7_append_6 rfl (lv_at hl 1 rfl) ?_
  refine lv_bipush (v := nI 126) hx hb dX7_append_7 (by decide) ?_
  refine n_icmp_le (a := cc) (b := 126) (tgt := 22) hx hb (by omega) (by decide) dX7_append_9 (by decide) (fun c_3 => ?_) (fun c_4 => by exfalso; omega)
  refine lv_aload_n hx hb dX7_append_22 rfl (lv_at hl 0 rfl) ?_
  refine va_get (D := G) (ci := 7) (v := .ref (t 0)) (C := RX7) (T := TX7) (N := 9) hx hb hts hinX7 hown hK hP 0 rfl rfl 3 (by decide) lk29 (fun _ h9 => h9) rfl dX7_append_23 ?_
  refine va_get (D := G) (ci := 5) (v := .int (X 0 1)) (C := RX5) (T := TX5) (N := 2) hx hb hts hinX5 hown hK hP 1 rfl rfl 1 (by decide) lk177 (fun _ h9 => h9) rfl dX7_append_26 ?_
  refine n_top (y := nI n) hlen ?_
  refine lv_bipush (v := nI 60) hx hb dX7_append_29 (by decide) ?_
  refine n_icmp_lt (a := n) (b := 60) (tgt := 44) hx hb (by omega) (by decide) dX7_append_31 (by decide) (fun c_5 => ?_) (fun c_6 => by exfalso; omega)
  refine lv_aload_n hx hb dX7_append_44 rfl (lv_at hl 0 rfl) ?_
  refine va_get (D := G) (ci := 7) (v := .ref (t 0)) (C := RX7) (T := TX7) (N := 9) hx hb hts hinX7 hown hK hP 0 rfl rfl 3 (by decide) lk29 (fun _ h9 => h9) rfl dX7_append_45 ?_
  refine lv_iload_n hx hb dX7_append_48 rfl (lv_at hl 1 rfl) ?_
  refine lv_i2c (v := i2c (nI cc)) hx hb dX7_append_49 rfl ?_
  refine n_top (y := nI cc) (i2c_n (by omega)) ?_
  refine k_rvV (As := [.int (nI cc)]) (rest := []) (wc := oX5 T t X) (wr := oX7 w q qz h t gr u tr oc Sw) (w1 := oX5 T t (sa (sc X 1 (nI (n + 1))) 1 (upd (X 1) n (nI cc)))) (d := 0) (mc := 0) (ms := 0) (isC := [1, 2]) (isR := [0]) cx (c_X5_add l G T H.size t X cc n (by first | assumption | rfl | omega) (by omega) (by omega) (by omega)) (cwV 1 hts gX7_append_X5_add rfl rfl rfl (by decide +kernel) ⟨Nat.le_of_ble_eq_true rfl, Nat.le_of_ble_eq_true rfl⟩) ⟨hP, hD, hS, hA, hE, hK, rfl, rfl, rfl, rfl, by decide⟩ (va_recv hK hP (ci := 5) (q0 := 1) rfl rfl) rfl hl.1 rfl (Nat.le_of_ble_eq_true rfl) dX7_append_50 ⟨Nat.le_of_ble_eq_true rfl, Nat.le_of_ble_eq_true rfl⟩ (fun H locs hP hD hS hz => ?_)
  have hP : va_P G vwCl [(w 0, .inr (7, [.ref (q 0), .ref (qz 0), .ref (h 0), .ref (t 0), .ref (gr 0), .ref (u 0), .ref (tr 0), .ref (oc 0), .int (Sw 0 8)])), (t 0, .inr (5, [.ref (t 1), .int (nI (n + 1))])), (t 1, .inl (T 1, 60, .inl (upd ((X 1)) n (nI cc))))] H := hP
  have hD : va_D A [(w 0, .inr (7, [.ref (q 0), .ref (qz 0), .ref (h 0), .ref (t 0), .ref (gr 0), .ref (u 0), .ref (tr 0), .ref (oc 0), .int (Sw 0 8)])), (t 0, .inr (5, [.ref (t 1), .int (nI (n + 1))])), (t 1, .inl (T 1, 60, .inl (upd ((X 1)) n (nI cc))))] := hD
  refine lv_aload_n hx hb dX7_append_53 rfl (lv_at hl 0 rfl) ?_
  refine va_get (D := G) (ci := 7) (v := .ref (t 0)) (C := RX7) (T := TX7) (N := 9) hx hb hts hinX7 hown hK hP 0 rfl rfl 3 (by decide) lk29 (fun _ h9 => h9) rfl dX7_append_54 ?_
  refine va_get (D := G) (ci := 5) (v := .int (nI (n + 1))) (C := RX5) (T := TX5) (N := 2) hx hb hts hinX5 hown hK hP 1 rfl rfl 1 (by decide) lk177 (fun _ h9 => h9) rfl dX7_append_57 ?_
  subst hQ
  have e_7 : (upd ((X 1)) n (nI cc)) = upd (X 1) n (nI cc) := (by first | rfl | simp [bI, c_2, c_3, c_5])
  rw [e_7] at hP hD
  have hP9 : va_P G vwCl (oX7 w q qz h t gr u tr oc Sw ++ oX5 T t (sa (sc X 1 (nI (n + 1))) 1 (upd (X 1) n (nI cc)))) H := hP
  have hD9 : va_D A (oX7 w q qz h t gr u tr oc Sw ++ oX5 T t (sa (sc X 1 (nI (n + 1))) 1 (upd (X 1) n (nI cc)))) := hD
  exact e_rwi hx hb hr hlocks hS rfl hP9 hD9 dX7_append_60
set_option maxHeartbeats 4000000 in
set_option maxRecDepth 100000 in
theorem c_X7_append_t (l : Launch) (hst : l.stackTraces = false) (G : va_G) (T : Nat → ClassId) (sz : Nat) (w : Nat → Nat) (q : Nat → Nat) (qz : Nat → Nat) (h : Nat → Nat) (t : Nat → Nat) (gr : Nat → Nat) (u : Nat → Nat) (tr : Nat → Nat) (oc : Nat → Nat) (Sw : Nat → Nat → Int32) (x : Int32) (hb9 : x < nI 33 ∨ ¬ x ≤ nI 126) : RX l yX7_append wsX7_append 7 G T sz (oX7 w q qz h t gr u tr oc Sw) [.ref (w 0), .int x] (.inr "java/lang/IllegalArgumentException") (oX7 w q qz h t gr u tr oc Sw) := by
  refine vx_ofW (cc := cX7_append) (maxL := 2) (ret := (some .int)) (by decide) rfl ?_
  intro p e s m args below meth c s₁ B hml htab hv
  obtain ⟨ha, ⟨hsz, hP, hK, hD0, hE0⟩, hC⟩ := hv
  have hx := B.exec
  have hb := B.bytes
  have hr := B.returns
  have hlocks := B.notSynchronized
  have hts := atoms_spec (ws := wsX7_append) B.pre
  have hown : s.vm.findClass RX7 = some m.cls := findClass_of_methodNamed B.named
  have cx : CallFix p m c cX7_append 2 s args wsX7_append RX7 := ⟨hx, hb, hml, hown, hts⟩
  subst hsz
  have hD := hD0.self (sz := s.heap.size)
  generalize hAe : va_A (oX7 w q qz h t gr u tr oc Sw) s.heap.size = A at hD hE0 ⊢
  have hE : gE A s s.heap := hE0
  have hA : ∀ q : Nat, s.heap.size ≤ q → A q := fun q h => by rw [← hAe]; exact Or.inr h
  have hS : va_S A s.heap s.heap [] := va_S.rf
  refine w_entry ha (Nat.le_of_ble_eq_true rfl) (fun ls hl => ?_)
  refine w_q (fun Q0 hQ => ?_)
  have hl : lv_has ls 2 [(0, .ref (w 0)), (1, .int x)] := hl
  have hP : va_P G vwCl [(w 0, .inr (7, [.ref (q 0), .ref (qz 0), .ref (h 0), .ref (t 0), .ref (gr 0), .ref (u 0), .ref (tr 0), .ref (oc 0), .int (Sw 0 8)]))] s.heap := hP
  have hD : va_D A [(w 0, .inr (7, [.ref (q 0), .ref (qz 0), .ref (h 0), .ref (t 0), .ref (gr 0), .ref (u 0), .ref (tr 0), .ref (oc 0), .int (Sw 0 8)]))] := hD
  skip
  refine w_h (fun H locs hHe hLe => ?_)
  have hP : va_P G vwCl [(w 0, .inr (7, [.ref (q 0), .ref (qz 0), .ref (h 0), .ref (t 0), .ref (gr 0), .ref (u 0), .ref (tr 0), .ref (oc 0), .int (Sw 0 8)]))] H := by rw [hHe]; exact hP
  have hS : va_S A s.heap H locs := by rw [hHe, hLe]; exact hS
  refine lv_iload_n hx hb dX7_append_0 rfl (lv_at hl 1 rfl) ?_
  refine lv_bipush (v := nI 33) hx hb dX7_append_1 (by decide) ?_
  refine lv_icmp_lt (tgt := 12) hx hb dX7_append_3 (by decide) (fun c_1 => ?_) (fun c_2 => ?_)
  · skip
    subst hQ
    have hP9 : va_P G vwCl (oX7 w q qz h t gr u tr oc Sw) H := hP
    have hD9 : va_D A (oX7 w q qz h t gr u tr oc Sw) := hD
    exact e_thr hx hb hst (own := RX7) (cls := "java/lang/IllegalArgumentException") "no such character" ["java/lang/RuntimeException", "java/lang/Exception"] (ik := 80) (is := 175) (ic := 84) hown (by decide +kernel) (by decide +kernel) (hts (.classLink RX7 80 "java/lang/IllegalArgumentException") (by decide +kernel)) (hts (.initialized "java/lang/IllegalArgumentException") (by decide +kernel)) (hE.2.1 (RX7, 175, "no such character") (by decide +kernel)) (xt_Z (is := 0) (ik := 0) (text := "") hC (by decide +kernel) (by decide +kernel) (fun w9 hw9 => hts w9 (List.mem_cons_of_mem _ (List.mem_append_left _ (List.mem_append_right _ hw9))))) (by decide +kernel) hE hS (hl.1.trans hml.symm) dX7_append_12 dX7_append_15 dX7_append_16 dX7_append_18 dX7_append_21 htab ⟨by decide, Nat.le_of_ble_eq_true rfl, Nat.le_of_ble_eq_true rfl, Nat.le_of_ble_eq_true rfl⟩ hlocks ⟨rfl, rfl⟩ rfl hP9 hD9
  · skip
    refine lv_iload_n hx hb dX7_append_6 rfl (lv_at hl 1 rfl) ?_
    refine lv_bipush (v := nI 126) hx hb dX7_append_7 (by decide) ?_
    refine lv_icmp_le (tgt := 22) hx hb dX7_append_9 (by decide) (fun c_3 => by exfalso; exact hb9.elim (by assumption) (fun q => q c_3)) (fun c_4 => ?_)
    subst hQ
    have hP9 : va_P G vwCl (oX7 w q qz h t gr u tr oc Sw) H := hP
    have hD9 : va_D A (oX7 w q qz h t gr u tr oc Sw) := hD
    exact e_thr hx hb hst (own := RX7) (cls := "java/lang/IllegalArgumentException") "no such character" ["java/lang/RuntimeException", "java/lang/Exception"] (ik := 80) (is := 175) (ic := 84) hown (by decide +kernel) (by decide +kernel) (hts (.classLink RX7 80 "java/lang/IllegalArgumentException") (by decide +kernel)) (hts (.initialized "java/lang/IllegalArgumentException") (by decide +kernel)) (hE.2.1 (RX7, 175, "no such character") (by decide +kernel)) (xt_Z (is := 0) (ik := 0) (text := "") hC (by decide +kernel) (by decide +kernel) (fun w9 hw9 => hts w9 (List.mem_cons_of_mem _ (List.mem_append_left _ (List.mem_append_right _ hw9))))) (by decide +kernel) hE hS (hl.1.trans hml.symm) dX7_append_12 dX7_append_15 dX7_append_16 dX7_append_18 dX7_append_21 htab ⟨by decide, Nat.le_of_ble_eq_true rfl, Nat.le_of_ble_eq_true rfl, Nat.le_of_ble_eq_true rfl⟩ hlocks ⟨rfl, rfl⟩ rfl hP9 hD9
set_option maxHeartbeats 4000000 in
set_option maxRecDepth 100000 in
theorem c_X7_append_t2 (l : Launch) (hst : l.stackTraces = false) (G : va_G) (T : Nat → ClassId) (sz : Nat) (w : Nat → Nat) (q : Nat → Nat) (qz : Nat → Nat) (h : Nat → Nat) (t : Nat → Nat) (gr : Nat → Nat) (u : Nat → Nat) (tr : Nat → Nat) (oc : Nat → Nat) (Sw : Nat → Nat → Int32) (X : Nat → Nat → Int32) (n : Nat) (cc : Nat) (hlen : X 0 1 = nI n) (hn60 : n = 60) (hc33 : 33 ≤ cc) (hc126 : cc ≤ 126) : RX l yX7_append wsX7_append 7 G T sz (oX7 w q qz h t gr u tr oc Sw ++ oX5 T t X) [.ref (w 0), .int (nI cc)] (.inr "java/lang/IllegalStateException") (oX7 w q qz h t gr u tr oc Sw ++ oX5 T t X) := by
  refine vx_ofW (cc := cX7_append) (maxL := 2) (ret := (some .int)) (by decide) rfl ?_
  intro p e s m args below meth c s₁ B hml htab hv
  obtain ⟨ha, ⟨hsz, hP, hK, hD0, hE0⟩, hC⟩ := hv
  have hx := B.exec
  have hb := B.bytes
  have hr := B.returns
  have hlocks := B.notSynchronized
  have hts := atoms_spec (ws := wsX7_append) B.pre
  have hown : s.vm.findClass RX7 = some m.cls := findClass_of_methodNamed B.named
  have cx : CallFix p m c cX7_append 2 s args wsX7_append RX7 := ⟨hx, hb, hml, hown, hts⟩
  subst hsz
  have hD := hD0.self (sz := s.heap.size)
  generalize hAe : va_A (oX7 w q qz h t gr u tr oc Sw ++ oX5 T t X) s.heap.size = A at hD hE0 ⊢
  have hE : gE A s s.heap := hE0
  have hA : ∀ q : Nat, s.heap.size ≤ q → A q := fun q h => by rw [← hAe]; exact Or.inr h
  have hS : va_S A s.heap s.heap [] := va_S.rf
  refine w_entry ha (Nat.le_of_ble_eq_true rfl) (fun ls hl => ?_)
  refine w_q (fun Q0 hQ => ?_)
  have lk29 := hts (.fieldLink RX7 29 "WhistleTunes" "text" "LWhistleTunes$Text;") (by decide +kernel)
  have hinX7 : ∀ w ∈ wsX70, w ∈ wsX7_append := by decide +kernel
  have lk177 := hts (.fieldLink RX7 177 "WhistleTunes$Text" "length" "I") (by decide +kernel)
  have hinX5 : ∀ w ∈ wsX50, w ∈ wsX7_append := by decide +kernel
  have hl : lv_has ls 2 [(0, .ref (w 0)), (1, .int (nI cc))] := hl
  have hP : va_P G vwCl [(w 0, .inr (7, [.ref (q 0), .ref (qz 0), .ref (h 0), .ref (t 0), .ref (gr 0), .ref (u 0), .ref (tr 0), .ref (oc 0), .int (Sw 0 8)])), (t 0, .inr (5, [.ref (t 1), .int (X 0 1)])), (t 1, .inl (T 1, 60, .inl (X 1)))] s.heap := hP
  have hD : va_D A [(w 0, .inr (7, [.ref (q 0), .ref (qz 0), .ref (h 0), .ref (t 0), .ref (gr 0), .ref (u 0), .ref (tr 0), .ref (oc 0), .int (Sw 0 8)])), (t 0, .inr (5, [.ref (t 1), .int (X 0 1)])), (t 1, .inl (T 1, 60, .inl (X 1)))] := hD
  skip
  refine w_h (fun H locs hHe hLe => ?_)
  have hP : va_P G vwCl [(w 0, .inr (7, [.ref (q 0), .ref (qz 0), .ref (h 0), .ref (t 0), .ref (gr 0), .ref (u 0), .ref (tr 0), .ref (oc 0), .int (Sw 0 8)])), (t 0, .inr (5, [.ref (t 1), .int (X 0 1)])), (t 1, .inl (T 1, 60, .inl (X 1)))] H := by rw [hHe]; exact hP
  have hS : va_S A s.heap H locs := by rw [hHe, hLe]; exact hS
  refine lv_iload_n hx hb dX7_append_0 rfl (lv_at hl 1 rfl) ?_
  refine lv_bipush (v := nI 33) hx hb dX7_append_1 (by decide) ?_
  refine n_icmp_lt (a := cc) (b := 33) (tgt := 12) hx hb (by omega) (by decide) dX7_append_3 (by decide) (fun c_1 => by exfalso; omega) (fun c_2 => ?_)
  refine lv_iload_n hx hb dX7_append_6 rfl (lv_at hl 1 rfl) ?_
  refine lv_bipush (v := nI 126) hx hb dX7_append_7 (by decide) ?_
  refine n_icmp_le (a := cc) (b := 126) (tgt := 22) hx hb (by omega) (by decide) dX7_append_9 (by decide) (fun c_3 => ?_) (fun c_4 => by exfalso; omega)
  refine lv_aload_n hx hb dX7_append_22 rfl (lv_at hl 0 rfl) ?_
  refine va_get (D := G) (ci := 7) (v := .ref (t 0)) (C := RX7) (T := TX7) (N := 9) hx hb hts hinX7 hown hK hP 0 rfl rfl 3 (by decide) lk29 (fun _ h9 => h9) rfl dX7_append_23 ?_
  refine va_get (D := G) (ci := 5) (v := .int (X 0 1)) (C := RX5) (T := TX5) (N := 2) hx hb hts hinX5 hown hK hP 1 rfl rfl 1 (by decide) lk177 (fun _ h9 => h9) rfl dX7_append_26 ?_
  refine n_top (y := nI n) hlen ?_
  refine lv_bipush (v := nI 60) hx hb dX7_append_29 (by decide) ?_
  refine n_icmp_lt (a := n) (b := 60) (tgt := 44) hx hb (by omega) (by decide) dX7_append_31 (by decide) (fun c_5 => by exfalso; omega) (fun c_6 => ?_)
  subst hQ
  have hP9 : va_P G vwCl (oX7 w q qz h t gr u tr oc Sw ++ oX5 T t X) H := hP
  have hD9 : va_D A (oX7 w q qz h t gr u tr oc Sw ++ oX5 T t X) := hD
  exact e_thr hx hb hst (own := RX7) (cls := "java/lang/IllegalStateException") "the buffer is full" ["java/lang/RuntimeException", "java/lang/Exception"] (ik := 89) (is := 178) (ic := 93) hown (by decide +kernel) (by decide +kernel) (hts (.classLink RX7 89 "java/lang/IllegalStateException") (by decide +kernel)) (hts (.initialized "java/lang/IllegalStateException") (by decide +kernel)) (hE.2.1 (RX7, 178, "the buffer is full") (by decide +kernel)) (xt_Z (is := 0) (ik := 0) (text := "") hC (by decide +kernel) (by decide +kernel) (fun w9 hw9 => hts w9 (List.mem_cons_of_mem _ (List.mem_append_right _ hw9)))) (by decide +kernel) hE hS (hl.1.trans hml.symm) dX7_append_34 dX7_append_37 dX7_append_38 dX7_append_40 dX7_append_43 htab ⟨by decide, Nat.le_of_ble_eq_true rfl, Nat.le_of_ble_eq_true rfl, Nat.le_of_ble_eq_true rfl⟩ hlocks ⟨rfl, rfl⟩ rfl hP9 hD9
set_option maxHeartbeats 4000000 in
set_option maxRecDepth 100000 in
theorem c_X7_clearBuffer (l : Launch) (G : va_G) (T : Nat → ClassId) (sz : Nat) (w : Nat → Nat) (q : Nat → Nat) (qz : Nat → Nat) (h : Nat → Nat) (t : Nat → Nat) (gr : Nat → Nat) (u : Nat → Nat) (tr : Nat → Nat) (oc : Nat → Nat) (Sw : Nat → Nat → Int32) (X : Nat → Nat → Int32) (n : Nat) (hlen : X 0 1 = nI n) (hn60 : n ≤ 60) : RWi l yX7_clearBuffer wsX7_clearBuffer 1 0 0 G T sz (oX7 w q qz h t gr u tr oc Sw ++ oX5 T t X) [.ref (w 0)] (nI n) (oX7 w q qz h t gr u tr oc Sw ++ oX5 T t (sc X 1 (nI 0))) := by
  refine Met.ofW (cc := cX7_clearBuffer) (maxL := 2) (ret := (some .int)) (by decide) rfl ?_
  intro p e s m args below meth c s₁ B hml hv
  obtain ⟨ha, hsz, hP, hK, hD0, hE0⟩ := hv
  have hx := B.exec
  have hb := B.bytes
  have hr := B.returns
  have hlocks := B.notSynchronized
  have hts := atoms_spec (ws := wsX7_clearBuffer) B.pre
  have hown : s.vm.findClass RX7 = some m.cls := findClass_of_methodNamed B.named
  have cx : CallFix p m c cX7_clearBuffer 2 s args wsX7_clearBuffer RX7 := ⟨hx, hb, hml, hown, hts⟩
  subst hsz
  have hD := hD0.self (sz := s.heap.size)
  generalize hAe : va_A (oX7 w q qz h t gr u tr oc Sw ++ oX5 T t X) s.heap.size = A at hD hE0 ⊢
  have hE : gE A s s.heap := hE0
  have hA : ∀ q : Nat, s.heap.size ≤ q → A q := fun q h => by rw [← hAe]; exact Or.inr h
  have hS : va_S A s.heap s.heap [] := va_S.rf
  refine w_entry ha (Nat.le_of_ble_eq_true rfl) (fun ls hl => ?_)
  refine w_q (fun Q0 hQ => ?_)
  have lk29 := hts (.fieldLink RX7 29 "WhistleTunes" "text" "LWhistleTunes$Text;") (by decide +kernel)
  have hinX7 : ∀ w ∈ wsX70, w ∈ wsX7_clearBuffer := by decide +kernel
  have lk177 := hts (.fieldLink RX7 177 "WhistleTunes$Text" "length" "I") (by decide +kernel)
  have hinX5 : ∀ w ∈ wsX50, w ∈ wsX7_clearBuffer := by decide +kernel
  have hl : lv_has ls 2 [(0, .ref (w 0))] := hl
  have hP : va_P G vwCl [(w 0, .inr (7, [.ref (q 0), .ref (qz 0), .ref (h 0), .ref (t 0), .ref (gr 0), .ref (u 0), .ref (tr 0), .ref (oc 0), .int (Sw 0 8)])), (t 0, .inr (5, [.ref (t 1), .int (X 0 1)])), (t 1, .inl (T 1, 60, .inl (X 1)))] s.heap := hP
  have hD : va_D A [(w 0, .inr (7, [.ref (q 0), .ref (qz 0), .ref (h 0), .ref (t 0), .ref (gr 0), .ref (u 0), .ref (tr 0), .ref (oc 0), .int (Sw 0 8)])), (t 0, .inr (5, [.ref (t 1), .int (X 0 1)])), (t 1, .inl (T 1, 60, .inl (X 1)))] := hD
  skip
  refine w_h (fun H locs hHe hLe => ?_)
  have hP : va_P G vwCl [(w 0, .inr (7, [.ref (q 0), .ref (qz 0), .ref (h 0), .ref (t 0), .ref (gr 0), .ref (u 0), .ref (tr 0), .ref (oc 0), .int (Sw 0 8)])), (t 0, .inr (5, [.ref (t 1), .int (X 0 1)])), (t 1, .inl (T 1, 60, .inl (X 1)))] H := by rw [hHe]; exact hP
  have hS : va_S A s.heap H locs := by rw [hHe, hLe]; exact hS
  refine lv_aload_n hx hb dX7_clearBuffer_0 rfl (lv_at hl 0 rfl) ?_
  refine va_get (D := G) (ci := 7) (v := .ref (t 0)) (C := RX7) (T := TX7) (N := 9) hx hb hts hinX7 hown hK hP 0 rfl rfl 3 (by decide) lk29 (fun _ h9 => h9) rfl dX7_clearBuffer_1 ?_
  refine va_get (D := G) (ci := 5) (v := .int (X 0 1)) (C := RX5) (T := TX5) (N := 2) hx hb hts hinX5 hown hK hP 1 rfl rfl 1 (by decide) lk177 (fun _ h9 => h9) rfl dX7_clearBuffer_4 ?_
  refine n_top (y := nI n) hlen ?_
  refine lv_istore_n (lv' := [(1, .int (nI n)), (0, .ref (w 0))]) hx hb dX7_clearBuffer_7 rfl hl (by decide) rfl (fun ls hl => ?_)
  refine lv_aload_n hx hb dX7_clearBuffer_8 rfl (lv_at hl 1 rfl) ?_
  refine va_get (D := G) (ci := 7) (v := .ref (t 0)) (C := RX7) (T := TX7) (N := 9) hx hb hts hinX7 hown hK hP 0 rfl rfl 3 (by decide) lk29 (fun _ h9 => h9) rfl dX7_clearBuffer_9 ?_
  refine k_rvV (As := []) (rest := []) (wc := oX5 T t X) (wr := oX7 w q qz h t gr u tr oc Sw) (w1 := oX5 T t (sc X 1 (nI 0))) (d := 0) (mc := 0) (ms := 0) (isC := [1, 2]) (isR := [0]) cx (c_X5_empty l G T H.size t X ) (cwV 0 hts gX7_clearBuffer_X5_empty rfl rfl rfl (by decide +kernel) ⟨Nat.le_of_ble_eq_true rfl, Nat.le_of_ble_eq_true rfl⟩) ⟨hP, hD, hS, hA, hE, hK, rfl, rfl, rfl, rfl, by decide⟩ (va_recv hK hP (ci := 5) (q0 := 1) rfl rfl) rfl hl.1 rfl (Nat.le_of_ble_eq_true rfl) dX7_clearBuffer_12 ⟨Nat.le_of_ble_eq_true rfl, Nat.le_of_ble_eq_true rfl⟩ (fun H locs hP hD hS hz => ?_)
  have hP : va_P G vwCl [(w 0, .inr (7, [.ref (q 0), .ref (qz 0), .ref (h 0), .ref (t 0), .ref (gr 0), .ref (u 0), .ref (tr 0), .ref (oc 0), .int (Sw 0 8)])), (t 0, .inr (5, [.ref (t 1), .int (nI 0)])), (t 1, .inl (T 1, 60, .inl (X 1)))] H := hP
  have hD : va_D A [(w 0, .inr (7, [.ref (q 0), .ref (qz 0), .ref (h 0), .ref (t 0), .ref (gr 0), .ref (u 0), .ref (tr 0), .ref (oc 0), .int (Sw 0 8)])), (t 0, .inr (5, [.ref (t 1), .int (nI 0)])), (t 1, .inl (T 1, 60, .inl (X 1)))] := hD
  refine lv_iload_n hx hb dX7_clearBuffer_15 rfl (lv_at hl 0 rfl) ?_
  subst hQ
  have hP9 : va_P G vwCl (oX7 w q qz h t gr u tr oc Sw ++ oX5 T t (sc X 1 (nI 0))) H := hP
  have hD9 : va_D A (oX7 w q qz h t gr u tr oc Sw ++ oX5 T t (sc X 1 (nI 0))) := hD
  exact e_rwi hx hb hr hlocks hS rfl hP9 hD9 dX7_clearBuffer_16

set_option maxHeartbeats 4000000 in
set_option maxRecDepth 100000 in
theorem c_X7_tuneError (l : Launch) (G : va_G) (T : Nat → ClassId) (sz : Nat) (w : Nat → Nat) (q : Nat → Nat) (qz : Nat → Nat) (h : Nat → Nat) (t : Nat → Nat) (gr : Nat → Nat) (u : Nat → Nat) (tr : Nat → Nat) (oc : Nat → Nat) (Sw : Nat → Nat → Int32) (Gg : Nat → Nat → Int32) (X : Nat → Nat → Int32) (n : Nat) (cd : Nat → Nat) (hlen : X 0 1 = nI n) (hn60 : n ≤ 60) (hcd : ∀ i : Nat, i < n → X 1 i = nI (cd i)) (hc127 : ∀ i : Nat, i < n → cd i < 127) : RWi l yX7_tuneError wsX7_tuneError 9 0 0 G T sz (oX7 w q qz h t gr u tr oc Sw ++ oX0 T gr Gg ++ oX5 T t X) [.ref (w 0)] (nI (gEr cd n 4 false)) (oX7 w q qz h t gr u tr oc Sw ++ oX0 T gr (gGr Gg cd n 4 false) ++ oX5 T t X) := by
  refine Met.ofW (cc := cX7_tuneError) (maxL := 1) (ret := (some .int)) (by decide) rfl ?_
  intro p e s m args below meth c s₁ B hml hv
  obtain ⟨ha, hsz, hP, hK, hD0, hE0⟩ := hv
  have hx := B.exec
  have hb := B.bytes
  have hr := B.returns
  have hlocks := B.notSynchronized
  have hts := atoms_spec (ws := wsX7_tuneError) B.pre
  have hown : s.vm.findClass RX7 = some m.cls := findClass_of_methodNamed B.named
  have cx : CallFix p m c cX7_tuneError 1 s args wsX7_tuneError RX7 := ⟨hx, hb, hml, hown, hts⟩
  subst hsz
  have hD := hD0.self (sz := s.heap.size)
  generalize hAe : va_A (oX7 w q qz h t gr u tr oc Sw ++ oX0 T gr Gg ++ oX5 T t X) s.heap.size = A at hD hE0 ⊢
  have hE : gE A s s.heap := hE0
  have hA : ∀ q : Nat, s.heap.size ≤ q → A q := fun q h => by rw [← hAe]; exact Or.inr h
  have hS : va_S A s.heap s.heap [] := va_S.rf
  refine w_entry ha (Nat.le_of_ble_eq_true rfl) (fun ls hl => ?_)
  refine w_q (fun Q0 hQ => ?_)
  have lk36 := hts (.fieldLink RX7 36 "WhistleTunes" "grammar" "LWhistleTunes$Grammar;") (by decide +kernel)
  have hinX7 : ∀ w ∈ wsX70, w ∈ wsX7_tuneError := by decide +kernel
  have lk29 := hts (.fieldLink RX7 29 "WhistleTunes" "text" "LWhistleTunes$Text;") (by decide +kernel)
  have hl : lv_has ls 1 [(0, .ref (w 0))] := hl
  have hP : va_P G vwCl [(w 0, .inr (7, [.ref (q 0), .ref (qz 0), .ref (h 0), .ref (t 0), .ref (gr 0), .ref (u 0), .ref (tr 0), .ref (oc 0), .int (Sw 0 8)])), (gr 0, .inr (0, [.int (Gg 0 0), .int (Gg 0 1), .int (Gg 0 2)])), (t 0, .inr (5, [.ref (t 1), .int (X 0 1)])), (t 1, .inl (T 1, 60, .inl (X 1)))] s.heap := hP
  have hD : va_D A [(w 0, .inr (7, [.ref (q 0), .ref (qz 0), .ref (h 0), .ref (t 0), .ref (gr 0), .ref (u 0), .ref (tr 0), .ref (oc 0), .int (Sw 0 8)])), (gr 0, .inr (0, [.int (Gg 0 0), .int (Gg 0 1), .int (Gg 0 2)])), (t 0, .inr (5, [.ref (t 1), .int (X 0 1)])), (t 1, .inl (T 1, 60, .inl (X 1)))] := hD
  skip
  refine w_h (fun H locs hHe hLe => ?_)
  have hP : va_P G vwCl [(w 0, .inr (7, [.ref (q 0), .ref (qz 0), .ref (h 0), .ref (t 0), .ref (gr 0), .ref (u 0), .ref (tr 0), .ref (oc 0), .int (Sw 0 8)])), (gr 0, .inr (0, [.int (Gg 0 0), .int (Gg 0 1), .int (Gg 0 2)])), (t 0, .inr (5, [.ref (t 1), .int (X 0 1)])), (t 1, .inl (T 1, 60, .inl (X 1)))] H := by rw [hHe]; exact hP
  have hS : va_S A s.heap H locs := by rw [hHe, hLe]; exact hS
  refine lv_aload_n hx hb dX7_tuneError_0 rfl (lv_at hl 0 rfl) ?_
  refine va_get (D := G) (ci := 7) (v := .ref (gr 0)) (C := RX7) (T := TX7) (N := 9) hx hb hts hinX7 hown hK hP 0 rfl rfl 4 (by decide) lk36 (fun _ h9 => h9) rfl dX7_tuneError_1 ?_
  refine lv_aload_n hx hb dX7_tuneError_4 rfl (lv_at hl 0 rfl) ?_
  refine va_get (D := G) (ci := 7) (v := .ref (t 0)) (C := RX7) (T := TX7) (N := 9) hx hb hts hinX7 hown hK hP 0 rfl rfl 3 (by decide) lk29 (fun _ h9 => h9) rfl dX7_tuneError_5 ?_
  refine k_rwV (As := [.ref (t 0)]) (rest := []) (wc := oX0 T gr Gg ++ oX5 T t X) (wr := oX7 w q qz h t gr u tr oc Sw) (w1 := oX0 T gr (sc (sc (sc Gg 0 (nI (gS cd n 4 false (gEn cd n 4 false)).1)) 1 (nI (gS cd n 4 false (gEn cd n 4 false)).2)) 2 (bI false)) ++ oX5 T t X) (d := 8) (mc := 0) (ms := 0) (v := nI (gEr cd n 4 false)) (isC := [1, 2, 3]) (isR := [0]) cx (c_X0_readTune l G T H.size gr t Gg X n cd (by first | assumption | rfl | omega) (by omega) (by first | assumption | rfl | omega) (by omega)) (cwV 1 hts gX7_tuneError_X0_readTune rfl rfl rfl (by decide +kernel) ⟨Nat.le_of_ble_eq_true rfl, Nat.le_of_ble_eq_true rfl⟩) ⟨hP, hD, hS, hA, hE, hK, rfl, rfl, rfl, rfl, by decide⟩ (va_recv hK hP (ci := 0) (q0 := 1) rfl rfl) rfl hl.1 rfl (Nat.le_of_ble_eq_true rfl) dX7_tuneError_8 ⟨Nat.le_of_ble_eq_true rfl, Nat.le_of_ble_eq_true rfl⟩ (fun H locs hP hD hS hz => ?_)
  have hP : va_P G vwCl [(w 0, .inr (7, [.ref (q 0), .ref (qz 0), .ref (h 0), .ref (t 0), .ref (gr 0), .ref (u 0), .ref (tr 0), .ref (oc 0), .int (Sw 0 8)])), (gr 0, .inr (0, [.int (nI (gS cd n 4 false (gEn cd n 4 false)).1), .int (nI (gS cd n 4 false (gEn cd n 4 false)).2), .int (bI false)])), (t 0, .inr (5, [.ref (t 1), .int (X 0 1)])), (t 1, .inl (T 1, 60, .inl (X 1)))] H := hP
  have hD : va_D A [(w 0, .inr (7, [.ref (q 0), .ref (qz 0), .ref (h 0), .ref (t 0), .ref (gr 0), .ref (u 0), .ref (tr 0), .ref (oc 0), .int (Sw 0 8)])), (gr 0, .inr (0, [.int (nI (gS cd n 4 false (gEn cd n 4 false)).1), .int (nI (gS cd n 4 false (gEn cd n 4 false)).2), .int (bI false)])), (t 0, .inr (5, [.ref (t 1), .int (X 0 1)])), (t 1, .inl (T 1, 60, .inl (X 1)))] := hD
  subst hQ
  have hP9 : va_P G vwCl (oX7 w q qz h t gr u tr oc Sw ++ oX0 T gr (gGr Gg cd n 4 false) ++ oX5 T t X) H := hP
  have hD9 : va_D A (oX7 w q qz h t gr u tr oc Sw ++ oX0 T gr (gGr Gg cd n 4 false) ++ oX5 T t X) := hD
  exact e_rwi hx hb hr hlocks hS rfl hP9 hD9 dX7_tuneError_11



set_option maxHeartbeats 4000000 in
set_option maxRecDepth 100000 in
theorem c_X7_undo (l : Launch) (G : va_G) (T : Nat → ClassId) (sz : Nat) (w : Nat → Nat) (q : Nat → Nat) (qz : Nat → Nat) (h : Nat → Nat) (t : Nat → Nat) (gr : Nat → Nat) (u : Nat → Nat) (tr : Nat → Nat) (oc : Nat → Nat) (Sw : Nat → Nat → Int32) (S : Nat → Nat → Int32) (Sh : Nat → Nat → Int32) (qs : Nat → Nat → Nat) (Hs : Nat → Nat → Nat → Int32) (o : Nat) (n : Nat) (ho : Sh 0 1 = nI o) (hn : Sh 0 2 = nI n) (ho6 : o < 6) (hn6 : n ≤ 6) (hn0 : 0 < n) : RWi l yX7_undo wsX7_undo 3 0 0 G T sz (oX7 w q qz h t gr u tr oc Sw ++ oX3 T q S ++ oX1 T h qs Sh Hs) [.ref (w 0)] (nI (n - 1)) (oX7 w q qz h t gr u tr oc Sw ++ oX3 T q (Hs ((o + (n - 1)) % 6)) ++ oX1 T h qs (sc Sh 2 (nI (n - 1))) Hs) := by
  refine Met.ofW (cc := cX7_undo) (maxL := 1) (ret := (some .int)) (by decide) rfl ?_
  intro p e s m args below meth c s₁ B hml hv
  obtain ⟨ha, hsz, hP, hK, hD0, hE0⟩ := hv
  have hx := B.exec
  have hb := B.bytes
  have hr := B.returns
  have hlocks := B.notSynchronized
  have hts := atoms_spec (ws := wsX7_undo) B.pre
  have hown : s.vm.findClass RX7 = some m.cls := findClass_of_methodNamed B.named
  have cx : CallFix p m c cX7_undo 1 s args wsX7_undo RX7 := ⟨hx, hb, hml, hown, hts⟩
  subst hsz
  have hD := hD0.self (sz := s.heap.size)
  generalize hAe : va_A (oX7 w q qz h t gr u tr oc Sw ++ oX3 T q S ++ oX1 T h qs Sh Hs) s.heap.size = A at hD hE0 ⊢
  have hE : gE A s s.heap := hE0
  have hA : ∀ q : Nat, s.heap.size ≤ q → A q := fun q h => by rw [← hAe]; exact Or.inr h
  have hS : va_S A s.heap s.heap [] := va_S.rf
  refine w_entry ha (Nat.le_of_ble_eq_true rfl) (fun ls hl => ?_)
  refine w_q (fun Q0 hQ => ?_)
  have lk22 := hts (.fieldLink RX7 22 "WhistleTunes" "history" "LWhistleTunes$History;") (by decide +kernel)
  have hinX7 : ∀ w ∈ wsX70, w ∈ wsX7_undo := by decide +kernel
  have lk208 := hts (.fieldLink RX7 208 "WhistleTunes$History" "size" "I") (by decide +kernel)
  have hinX1 : ∀ w ∈ wsX10, w ∈ wsX7_undo := by decide +kernel
  have lk10 := hts (.fieldLink RX7 10 "WhistleTunes" "school" "LWhistleTunes$School;") (by decide +kernel)
  have hl : lv_has ls 1 [(0, .ref (w 0))] := hl
  have hP : va_P G vwCl ([(w 0, .inr (7, [.ref (q 0), .ref (qz 0), .ref (h 0), .ref (t 0), .ref (gr 0), .ref (u 0), .ref (tr 0), .ref (oc 0), .int (Sw 0 8)])), (q 0, .inr (3, [.int (S 0 0), .int (S 0 1), .int (S 0 2), .int (S 0 3), .ref (q 5), .ref (q 6), .ref (q 7), .ref (q 8), .ref (q 9), .ref (q 10), .ref (q 11), .ref (q 12), .ref (q 13), .ref (q 14), .ref (q 15), .ref (q 16)])), (q 5, .inl (T 0, 2, .inl (S 5))), (q 6, .inl (T 0, 20, .inl (S 6))), (q 7, .inl (T 0, 160, .inl (S 7))), (q 8, .inl (T 0, 20, .inl (S 8))), (q 9, .inl (T 0, 20, .inl (S 9))), (q 10, .inl (T 0, 20, .inl (S 10))), (q 11, .inl (T 0, 6, .inl (S 11))), (q 12, .inl (T 0, 6, .inl (S 12))), (q 13, .inl (T 0, 6, .inl (S 13))), (q 14, .inl (T 0, 6, .inl (S 14))), (q 15, .inl (T 0, 6, .inl (S 15))), (q 16, .inl (T 0, 2, .inl (S 16)))] ++ oX1 T h qs Sh Hs) s.heap := hP
  have hD : va_D A ([(w 0, .inr (7, [.ref (q 0), .ref (qz 0), .ref (h 0), .ref (t 0), .ref (gr 0), .ref (u 0), .ref (tr 0), .ref (oc 0), .int (Sw 0 8)])), (q 0, .inr (3, [.int (S 0 0), .int (S 0 1), .int (S 0 2), .int (S 0 3), .ref (q 5), .ref (q 6), .ref (q 7), .ref (q 8), .ref (q 9), .ref (q 10), .ref (q 11), .ref (q 12), .ref (q 13), .ref (q 14), .ref (q 15), .ref (q 16)])), (q 5, .inl (T 0, 2, .inl (S 5))), (q 6, .inl (T 0, 20, .inl (S 6))), (q 7, .inl (T 0, 160, .inl (S 7))), (q 8, .inl (T 0, 20, .inl (S 8))), (q 9, .inl (T 0, 20, .inl (S 9))), (q 10, .inl (T 0, 20, .inl (S 10))), (q 11, .inl (T 0, 6, .inl (S 11))), (q 12, .inl (T 0, 6, .inl (S 12))), (q 13, .inl (T 0, 6, .inl (S 13))), (q 14, .inl (T 0, 6, .inl (S 14))), (q 15, .inl (T 0, 6, .inl (S 15))), (q 16, .inl (T 0, 2, .inl (S 16)))] ++ oX1 T h qs Sh Hs) := hD
  skip
  refine w_h (fun H locs hHe hLe => ?_)
  have hP : va_P G vwCl ([(w 0, .inr (7, [.ref (q 0), .ref (qz 0), .ref (h 0), .ref (t 0), .ref (gr 0), .ref (u 0), .ref (tr 0), .ref (oc 0), .int (Sw 0 8)])), (q 0, .inr (3, [.int (S 0 0), .int (S 0 1), .int (S 0 2), .int (S 0 3), .ref (q 5), .ref (q 6), .ref (q 7), .ref (q 8), .ref (q 9), .ref (q 10), .ref (q 11), .ref (q 12), .ref (q 13), .ref (q 14), .ref (q 15), .ref (q 16)])), (q 5, .inl (T 0, 2, .inl (S 5))), (q 6, .inl (T 0, 20, .inl (S 6))), (q 7, .inl (T 0, 160, .inl (S 7))), (q 8, .inl (T 0, 20, .inl (S 8))), (q 9, .inl (T 0, 20, .inl (S 9))), (q 10, .inl (T 0, 20, .inl (S 10))), (q 11, .inl (T 0, 6, .inl (S 11))), (q 12, .inl (T 0, 6, .inl (S 12))), (q 13, .inl (T 0, 6, .inl (S 13))), (q 14, .inl (T 0, 6, .inl (S 14))), (q 15, .inl (T 0, 6, .inl (S 15))), (q 16, .inl (T 0, 2, .inl (S 16)))] ++ oX1 T h qs Sh Hs) H := by rw [hHe]; exact hP
  have hS : va_S A s.heap H locs := by rw [hHe, hLe]; exact hS
  refine lv_aload_n hx hb dX7_undo_0 rfl (lv_at hl 0 rfl) ?_
  refine va_get (D := G) (ci := 7) (v := .ref (h 0)) (C := RX7) (T := TX7) (N := 9) hx hb hts hinX7 hown hK hP 0 rfl rfl 2 (by decide) lk22 (fun _ h9 => h9) rfl dX7_undo_1 ?_
  refine va_get (D := G) (ci := 1) (v := .int (Sh 0 2)) (C := RX1) (T := TX1) (N := 3) hx hb hts hinX1 hown hK hP 14 rfl rfl 2 (by decide) lk208 (fun _ h9 => h9) rfl dX7_undo_4 ?_
  refine n_top (y := nI n) hn ?_
  refine n_if_ne (a := n) (tgt := 20) hx hb (by omega) dX7_undo_7 (by decide) (fun c_1 => ?_) (fun c_2 => by exfalso; omega)
  refine lv_aload_n hx hb dX7_undo_20 rfl (lv_at hl 0 rfl) ?_
  refine va_get (D := G) (ci := 7) (v := .ref (h 0)) (C := RX7) (T := TX7) (N := 9) hx hb hts hinX7 hown hK hP 0 rfl rfl 2 (by decide) lk22 (fun _ h9 => h9) rfl dX7_undo_21 ?_
  refine lv_aload_n hx hb dX7_undo_24 rfl (lv_at hl 0 rfl) ?_
  refine va_get (D := G) (ci := 7) (v := .ref (q 0)) (C := RX7) (T := TX7) (N := 9) hx hb hts hinX7 hown hK hP 0 rfl rfl 0 (by decide) lk10 (fun _ h9 => h9) rfl dX7_undo_25 ?_
  refine k_rvV (As := [.ref (q 0)]) (rest := []) (wc := oX1 T h qs Sh Hs ++ oX3 T q S) (wr := oX7 w q qz h t gr u tr oc Sw) (w1 := oX1 T h qs (sc Sh 2 (nI (n - 1))) Hs ++ oX3 T q (Hs ((o + (n - 1)) % 6))) (d := 2) (mc := 0) (ms := 0) (isC := [14, 15, 16, 17, 18, 19, 20, 21, 22, 23, 24, 25, 26, 27, 28, 29, 30, 31, 32, 33, 34, 35, 36, 37, 38, 39, 40, 41, 42, 43, 44, 45, 46, 47, 48, 49, 50, 51, 52, 53, 54, 55, 56, 57, 58, 59, 60, 61, 62, 63, 64, 65, 66, 67, 68, 69, 70, 71, 72, 73, 74, 75, 76, 77, 78, 79, 80, 81, 82, 83, 84, 85, 86, 87, 88, 89, 90, 91, 92, 93, 1, 2, 3, 4, 5, 6, 7, 8, 9, 10, 11, 12, 13]) (isR := [0]) cx (c_X1_popInto l G T H.size h qs Sh Hs q S o n (by first | assumption | rfl | omega) (by first | assumption | rfl | omega) (by omega) (by omega) (by omega)) (cwV 1 hts gX7_undo_X1_popInto rfl rfl rfl (by decide +kernel) ⟨Nat.le_of_ble_eq_true rfl, Nat.le_of_ble_eq_true rfl⟩) ⟨hP, hD, hS, hA, hE, hK, rfl, rfl, rfl, rfl, by decide⟩ (va_recv hK hP (ci := 1) (q0 := 14) rfl rfl) rfl hl.1 rfl (Nat.le_of_ble_eq_true rfl) dX7_undo_28 ⟨Nat.le_of_ble_eq_true rfl, Nat.le_of_ble_eq_true rfl⟩ (fun H locs hP hD hS hz => ?_)
  have hP : va_P G vwCl ([(w 0, .inr (7, [.ref (q 0), .ref (qz 0), .ref (h 0), .ref (t 0), .ref (gr 0), .ref (u 0), .ref (tr 0), .ref (oc 0), .int (Sw 0 8)])), (q 0, .inr (3, [.int ((Hs ((o + (n - 1)) % 6)) 0 0), .int ((Hs ((o + (n - 1)) % 6)) 0 1), .int ((Hs ((o + (n - 1)) % 6)) 0 2), .int ((Hs ((o + (n - 1)) % 6)) 0 3), .ref (q 5), .ref (q 6), .ref (q 7), .ref (q 8), .ref (q 9), .ref (q 10), .ref (q 11), .ref (q 12), .ref (q 13), .ref (q 14), .ref (q 15), .ref (q 16)])), (q 5, .inl (T 0, 2, .inl ((Hs ((o + (n - 1)) % 6)) 5))), (q 6, .inl (T 0, 20, .inl ((Hs ((o + (n - 1)) % 6)) 6))), (q 7, .inl (T 0, 160, .inl ((Hs ((o + (n - 1)) % 6)) 7))), (q 8, .inl (T 0, 20, .inl ((Hs ((o + (n - 1)) % 6)) 8))), (q 9, .inl (T 0, 20, .inl ((Hs ((o + (n - 1)) % 6)) 9))), (q 10, .inl (T 0, 20, .inl ((Hs ((o + (n - 1)) % 6)) 10))), (q 11, .inl (T 0, 6, .inl ((Hs ((o + (n - 1)) % 6)) 11))), (q 12, .inl (T 0, 6, .inl ((Hs ((o + (n - 1)) % 6)) 12))), (q 13, .inl (T 0, 6, .inl ((Hs ((o + (n - 1)) % 6)) 13))), (q 14, .inl (T 0, 6, .inl ((Hs ((o + (n - 1)) % 6)) 14))), (q 15, .inl (T 0, 6, .inl ((Hs ((o + (n - 1)) % 6)) 15))), (q 16, .inl (T 0, 2, .inl ((Hs ((o + (n - 1)) % 6)) 16)))] ++ oX1 T h qs (sc Sh 2 (nI (n - 1))) Hs) H := kN.sub (is := [0, 81, 82, 83, 84, 85, 86, 87, 88, 89, 90, 91, 92, 93, 1, 2, 3, 4, 5, 6, 7, 8, 9, 10, 11, 12, 13, 14, 15, 16, 17, 18, 19, 20, 21, 22, 23, 24, 25, 26, 27, 28, 29, 30, 31, 32, 33, 34, 35, 36, 37, 38, 39, 40, 41, 42, 43, 44, 45, 46, 47, 48, 49, 50, 51, 52, 53, 54, 55, 56, 57, 58, 59, 60, 61, 62, 63, 64, 65, 66, 67, 68, 69, 70, 71, 72, 73, 74, 75, 76, 77, 78, 79, 80]) hP rfl
  have hD : va_D A ([(w 0, .inr (7, [.ref (q 0), .ref (qz 0), .ref (h 0), .ref (t 0), .ref (gr 0), .ref (u 0), .ref (tr 0), .ref (oc 0), .int (Sw 0 8)])), (q 0, .inr (3, [.int ((Hs ((o + (n - 1)) % 6)) 0 0), .int ((Hs ((o + (n - 1)) % 6)) 0 1), .int ((Hs ((o + (n - 1)) % 6)) 0 2), .int ((Hs ((o + (n - 1)) % 6)) 0 3), .ref (q 5), .ref (q 6), .ref (q 7), .ref (q 8), .ref (q 9), .ref (q 10), .ref (q 11), .ref (q 12), .ref (q 13), .ref (q 14), .ref (q 15), .ref (q 16)])), (q 5, .inl (T 0, 2, .inl ((Hs ((o + (n - 1)) % 6)) 5))), (q 6, .inl (T 0, 20, .inl ((Hs ((o + (n - 1)) % 6)) 6))), (q 7, .inl (T 0, 160, .inl ((Hs ((o + (n - 1)) % 6)) 7))), (q 8, .inl (T 0, 20, .inl ((Hs ((o + (n - 1)) % 6)) 8))), (q 9, .inl (T 0, 20, .inl ((Hs ((o + (n - 1)) % 6)) 9))), (q 10, .inl (T 0, 20, .inl ((Hs ((o + (n - 1)) % 6)) 10))), (q 11, .inl (T 0, 6, .inl ((Hs ((o + (n - 1)) % 6)) 11))), (q 12, .inl (T 0, 6, .inl ((Hs ((o + (n - 1)) % 6)) 12))), (q 13, .inl (T 0, 6, .inl ((Hs ((o + (n - 1)) % 6)) 13))), (q 14, .inl (T 0, 6, .inl ((Hs ((o + (n - 1)) % 6)) 14))), (q 15, .inl (T 0, 6, .inl ((Hs ((o + (n - 1)) % 6)) 15))), (q 16, .inl (T 0, 2, .inl ((Hs ((o + (n - 1)) % 6)) 16)))] ++ oX1 T h qs (sc Sh 2 (nI (n - 1))) Hs) := hD.sub [0, 81, 82, 83, 84, 85, 86, 87, 88, 89, 90, 91, 92, 93, 1, 2, 3, 4, 5, 6, 7, 8, 9, 10, 11, 12, 13, 14, 15, 16, 17, 18, 19, 20, 21, 22, 23, 24, 25, 26, 27, 28, 29, 30, 31, 32, 33, 34, 35, 36, 37, 38, 39, 40, 41, 42, 43, 44, 45, 46, 47, 48, 49, 50, 51, 52, 53, 54, 55, 56, 57, 58, 59, 60, 61, 62, 63, 64, 65, 66, 67, 68, 69, 70, 71, 72, 73, 74, 75, 76, 77, 78, 79, 80] rfl rfl
  refine lv_aload_n hx hb dX7_undo_31 rfl (lv_at hl 0 rfl) ?_
  refine va_get (D := G) (ci := 7) (v := .ref (h 0)) (C := RX7) (T := TX7) (N := 9) hx hb hts hinX7 hown hK hP 0 rfl rfl 2 (by decide) lk22 (fun _ h9 => h9) rfl dX7_undo_32 ?_
  refine va_get (D := G) (ci := 1) (v := .int (nI (n - 1))) (C := RX1) (T := TX1) (N := 3) hx hb hts hinX1 hown hK hP 14 rfl rfl 2 (by decide) lk208 (fun _ h9 => h9) rfl dX7_undo_35 ?_
  subst hQ
  have hP9 : va_P G vwCl (oX7 w q qz h t gr u tr oc Sw ++ oX3 T q (Hs ((o + (n - 1)) % 6)) ++ oX1 T h qs (sc Sh 2 (nI (n - 1))) Hs) H := hP
  have hD9 : va_D A (oX7 w q qz h t gr u tr oc Sw ++ oX3 T q (Hs ((o + (n - 1)) % 6)) ++ oX1 T h qs (sc Sh 2 (nI (n - 1))) Hs) := hD
  exact e_rwi hx hb hr hlocks hS rfl hP9 hD9 dX7_undo_38
set_option maxHeartbeats 4000000 in
set_option maxRecDepth 100000 in
theorem c_X7_undo_t (l : Launch) (hst : l.stackTraces = false) (G : va_G) (T : Nat → ClassId) (sz : Nat) (w : Nat → Nat) (q : Nat → Nat) (qz : Nat → Nat) (h : Nat → Nat) (t : Nat → Nat) (gr : Nat → Nat) (u : Nat → Nat) (tr : Nat → Nat) (oc : Nat → Nat) (Sw : Nat → Nat → Int32) (Sh : Nat → Nat → Int32) (qs : Nat → Nat → Nat) (Hs : Nat → Nat → Nat → Int32) (hn : Sh 0 2 = nI 0) : RX l yX7_undo wsX7_undo 7 G T sz (oX7 w q qz h t gr u tr oc Sw ++ oX1 T h qs Sh Hs) [.ref (w 0)] (.inr "java/lang/IllegalStateException") (oX7 w q qz h t gr u tr oc Sw ++ oX1 T h qs Sh Hs) := by
  refine vx_ofW (cc := cX7_undo) (maxL := 1) (ret := (some .int)) (by decide) rfl ?_
  intro p e s m args below meth c s₁ B hml htab hv
  obtain ⟨ha, ⟨hsz, hP, hK, hD0, hE0⟩, hC⟩ := hv
  have hx := B.exec
  have hb := B.bytes
  have hr := B.returns
  have hlocks := B.notSynchronized
  have hts := atoms_spec (ws := wsX7_undo) B.pre
  have hown : s.vm.findClass RX7 = some m.cls := findClass_of_methodNamed B.named
  have cx : CallFix p m c cX7_undo 1 s args wsX7_undo RX7 := ⟨hx, hb, hml, hown, hts⟩
  subst hsz
  have hD := hD0.self (sz := s.heap.size)
  generalize hAe : va_A (oX7 w q qz h t gr u tr oc Sw ++ oX1 T h qs Sh Hs) s.heap.size = A at hD hE0 ⊢
  have hE : gE A s s.heap := hE0
  have hA : ∀ q : Nat, s.heap.size ≤ q → A q := fun q h => by rw [← hAe]; exact Or.inr h
  have hS : va_S A s.heap s.heap [] := va_S.rf
  refine w_entry ha (Nat.le_of_ble_eq_true rfl) (fun ls hl => ?_)
  refine w_q (fun Q0 hQ => ?_)
  have lk22 := hts (.fieldLink RX7 22 "WhistleTunes" "history" "LWhistleTunes$History;") (by decide +kernel)
  have hinX7 : ∀ w ∈ wsX70, w ∈ wsX7_undo := by decide +kernel
  have lk208 := hts (.fieldLink RX7 208 "WhistleTunes$History" "size" "I") (by decide +kernel)
  have hinX1 : ∀ w ∈ wsX10, w ∈ wsX7_undo := by decide +kernel
  have hl : lv_has ls 1 [(0, .ref (w 0))] := hl
  have hP : va_P G vwCl ([(w 0, .inr (7, [.ref (q 0), .ref (qz 0), .ref (h 0), .ref (t 0), .ref (gr 0), .ref (u 0), .ref (tr 0), .ref (oc 0), .int (Sw 0 8)]))] ++ oX1 T h qs Sh Hs) s.heap := hP
  have hD : va_D A ([(w 0, .inr (7, [.ref (q 0), .ref (qz 0), .ref (h 0), .ref (t 0), .ref (gr 0), .ref (u 0), .ref (tr 0), .ref (oc 0), .int (Sw 0 8)]))] ++ oX1 T h qs Sh Hs) := hD
  skip
  refine w_h (fun H locs hHe hLe => ?_)
  have hP : va_P G vwCl ([(w 0, .inr (7, [.ref (q 0), .ref (qz 0), .ref (h 0), .ref (t 0), .ref (gr 0), .ref (u 0), .ref (tr 0), .ref (oc 0), .int (Sw 0 8)]))] ++ oX1 T h qs Sh Hs) H := by rw [hHe]; exact hP
  have hS : va_S A s.heap H locs := by rw [hHe, hLe]; exact hS
  refine lv_aload_n hx hb dX7_undo_0 rfl (lv_at hl 0 rfl) ?_
  refine va_get (D := G) (ci := 7) (v := .ref (h 0)) (C := RX7) (T := TX7) (N := 9) hx hb hts hinX7 hown hK hP 0 rfl rfl 2 (by decide) lk22 (fun _ h9 => h9) rfl dX7_undo_1 ?_
  refine va_get (D := G) (ci := 1) (v := .int (Sh 0 2)) (C := RX1) (T := TX1) (N := 3) hx hb hts hinX1 hown hK hP 1 rfl rfl 2 (by decide) lk208 (fun _ h9 => h9) rfl dX7_undo_4 ?_
  refine n_top (y := nI 0) hn ?_
  refine n_if_ne (a := 0) (tgt := 20) hx hb (by decide) dX7_undo_7 (by decide) (fun h9 => absurd h9 (by decide)) (fun c_1 => ?_)
  subst hQ
  have hP9 : va_P G vwCl (oX7 w q qz h t gr u tr oc Sw ++ oX1 T h qs Sh Hs) H := hP
  have hD9 : va_D A (oX7 w q qz h t gr u tr oc Sw ++ oX1 T h qs Sh Hs) := hD
  exact e_thr hx hb hst (own := RX7) (cls := "java/lang/IllegalStateException") "no saved state" ["java/lang/RuntimeException", "java/lang/Exception"] (ik := 89) (is := 211) (ic := 93) hown (by decide +kernel) (by decide +kernel) (hts (.classLink RX7 89 "java/lang/IllegalStateException") (by decide +kernel)) (hts (.initialized "java/lang/IllegalStateException") (by decide +kernel)) (hE.2.1 (RX7, 211, "no saved state") (by decide +kernel)) (xt_Z (is := 0) (ik := 0) (text := "") hC (by decide +kernel) (by decide +kernel) (fun w9 hw9 => hts w9 (List.mem_cons_of_mem _ (List.mem_append_right _ hw9)))) (by decide +kernel) hE hS (hl.1.trans hml.symm) dX7_undo_10 dX7_undo_13 dX7_undo_14 dX7_undo_16 dX7_undo_19 htab ⟨by decide, Nat.le_of_ble_eq_true rfl, Nat.le_of_ble_eq_true rfl, Nat.le_of_ble_eq_true rfl⟩ hlocks ⟨rfl, rfl⟩ rfl hP9 hD9
set_option maxHeartbeats 4000000 in
set_option maxRecDepth 100000 in
theorem c_X7_readTuneOfText (l : Launch) (G : va_G) (T : Nat → ClassId) (sz : Nat) (w : Nat → Nat) (q : Nat → Nat) (qz : Nat → Nat) (h : Nat → Nat) (t : Nat → Nat) (gr : Nat → Nat) (u : Nat → Nat) (tr : Nat → Nat) (oc : Nat → Nat) (Sw : Nat → Nat → Int32) (Gg : Nat → Nat → Int32) (X : Nat → Nat → Int32) (U : Nat → Nat → Int32) (n : Nat) (cd : Nat → Nat) (hlen : X 0 1 = nI n) (hn60 : n ≤ 60) (hcd : ∀ i : Nat, i < n → X 1 i = nI (cd i)) (hc127 : ∀ i : Nat, i < n → cd i < 127) : RWi l yX7_readTuneOfText wsX7_readTuneOfText 10 0 0 G T sz (oX7 w q qz h t gr u tr oc Sw ++ oX0 T gr Gg ++ oX5 T t X ++ oX6 T u U) [.ref (w 0)] (bI (bT cd n)) (oX7 w q qz h t gr u tr oc Sw ++ oX0 T gr (gGr Gg cd n 4 false) ++ oX5 T t X ++ oX6 T u (rTu U cd n)) := by
  refine Met.ofW (cc := cX7_readTuneOfText) (maxL := 1) (ret := (some .boolean)) (by decide) rfl ?_
  intro p e s m args below meth c s₁ B hml hv
  obtain ⟨ha, hsz, hP, hK, hD0, hE0⟩ := hv
  have hx := B.exec
  have hb := B.bytes
  have hr := B.returns
  have hlocks := B.notSynchronized
  have hts := atoms_spec (ws := wsX7_readTuneOfText) B.pre
  have hown : s.vm.findClass RX7 = some m.cls := findClass_of_methodNamed B.named
  have cx : CallFix p m c cX7_readTuneOfText 1 s args wsX7_readTuneOfText RX7 := ⟨hx, hb, hml, hown, hts⟩
  subst hsz
  have hD := hD0.self (sz := s.heap.size)
  generalize hAe : va_A (oX7 w q qz h t gr u tr oc Sw ++ oX0 T gr Gg ++ oX5 T t X ++ oX6 T u U) s.heap.size = A at hD hE0 ⊢
  have hE : gE A s s.heap := hE0
  have hA : ∀ q : Nat, s.heap.size ≤ q → A q := fun q h => by rw [← hAe]; exact Or.inr h
  have hS : va_S A s.heap s.heap [] := va_S.rf
  refine w_entry ha (Nat.le_of_ble_eq_true rfl) (fun ls hl => ?_)
  refine w_q (fun Q0 hQ => ?_)
  have lk36 := hts (.fieldLink RX7 36 "WhistleTunes" "grammar" "LWhistleTunes$Grammar;") (by decide +kernel)
  have hinX7 : ∀ w ∈ wsX70, w ∈ wsX7_readTuneOfText := by decide +kernel
  have lk29 := hts (.fieldLink RX7 29 "WhistleTunes" "text" "LWhistleTunes$Text;") (by decide +kernel)
  have lk177 := hts (.fieldLink RX7 177 "WhistleTunes$Text" "length" "I") (by decide +kernel)
  have hinX5 : ∀ w ∈ wsX50, w ∈ wsX7_readTuneOfText := by decide +kernel
  have lk43 := hts (.fieldLink RX7 43 "WhistleTunes" "tune" "LWhistleTunes$Tune;") (by decide +kernel)
  have hl : lv_has ls 1 [(0, .ref (w 0))] := hl
  have hP : va_P G vwCl [(w 0, .inr (7, [.ref (q 0), .ref (qz 0), .ref (h 0), .ref (t 0), .ref (gr 0), .ref (u 0), .ref (tr 0), .ref (oc 0), .int (Sw 0 8)])), (gr 0, .inr (0, [.int (Gg 0 0), .int (Gg 0 1), .int (Gg 0 2)])), (t 0, .inr (5, [.ref (t 1), .int (X 0 1)])), (t 1, .inl (T 1, 60, .inl (X 1))), (u 0, .inr (6, [.ref (u 1), .ref (u 2), .int (U 0 2)])), (u 1, .inl (T 0, 9, .inl (U 1))), (u 2, .inl (T 0, 3, .inl (U 2)))] s.heap := hP
  have hD : va_D A [(w 0, .inr (7, [.ref (q 0), .ref (qz 0), .ref (h 0), .ref (t 0), .ref (gr 0), .ref (u 0), .ref (tr 0), .ref (oc 0), .int (Sw 0 8)])), (gr 0, .inr (0, [.int (Gg 0 0), .int (Gg 0 1), .int (Gg 0 2)])), (t 0, .inr (5, [.ref (t 1), .int (X 0 1)])), (t 1, .inl (T 1, 60, .inl (X 1))), (u 0, .inr (6, [.ref (u 1), .ref (u 2), .int (U 0 2)])), (u 1, .inl (T 0, 9, .inl (U 1))), (u 2, .inl (T 0, 3, .inl (U 2)))] := hD
  skip
  have hge := gEr_le cd n 4 false
  refine w_h (fun H locs hHe hLe => ?_)
  have hP : va_P G vwCl [(w 0, .inr (7, [.ref (q 0), .ref (qz 0), .ref (h 0), .ref (t 0), .ref (gr 0), .ref (u 0), .ref (tr 0), .ref (oc 0), .int (Sw 0 8)])), (gr 0, .inr (0, [.int (Gg 0 0), .int (Gg 0 1), .int (Gg 0 2)])), (t 0, .inr (5, [.ref (t 1), .int (X 0 1)])), (t 1, .inl (T 1, 60, .inl (X 1))), (u 0, .inr (6, [.ref (u 1), .ref (u 2), .int (U 0 2)])), (u 1, .inl (T 0, 9, .inl (U 1))), (u 2, .inl (T 0, 3, .inl (U 2)))] H := by rw [hHe]; exact hP
  have hS : va_S A s.heap H locs := by rw [hHe, hLe]; exact hS
  refine lv_aload_n hx hb dX7_readTuneOfText_0 rfl (lv_at hl 0 rfl) ?_
  refine va_get (D := G) (ci := 7) (v := .ref (gr 0)) (C := RX7) (T := TX7) (N := 9) hx hb hts hinX7 hown hK hP 0 rfl rfl 4 (by decide) lk36 (fun _ h9 => h9) rfl dX7_readTuneOfText_1 ?_
  refine lv_aload_n hx hb dX7_readTuneOfText_4 rfl (lv_at hl 0 rfl) ?_
  refine va_get (D := G) (ci := 7) (v := .ref (t 0)) (C := RX7) (T := TX7) (N := 9) hx hb hts hinX7 hown hK hP 0 rfl rfl 3 (by decide) lk29 (fun _ h9 => h9) rfl dX7_readTuneOfText_5 ?_
  refine k_rwV (As := [.ref (t 0)]) (rest := []) (wc := oX0 T gr Gg ++ oX5 T t X) (wr := oX7 w q qz h t gr u tr oc Sw ++ oX6 T u U) (w1 := oX0 T gr (sc (sc (sc Gg 0 (nI (gS cd n 4 false (gEn cd n 4 false)).1)) 1 (nI (gS cd n 4 false (gEn cd n 4 false)).2)) 2 (bI false)) ++ oX5 T t X) (d := 8) (mc := 0) (ms := 0) (v := nI (gEr cd n 4 false)) (isC := [1, 2, 3]) (isR := [0, 4, 5, 6]) cx (c_X0_readTune l G T H.size gr t Gg X n cd (by first | assumption | rfl | omega) (by omega) (by first | assumption | rfl | omega) (by omega)) (cwV 1 hts gX7_readTuneOfText_X0_readTune rfl rfl rfl (by decide +kernel) ⟨Nat.le_of_ble_eq_true rfl, Nat.le_of_ble_eq_true rfl⟩) ⟨hP, hD, hS, hA, hE, hK, rfl, rfl, rfl, rfl, by decide⟩ (va_recv hK hP (ci := 0) (q0 := 1) rfl rfl) rfl hl.1 rfl (Nat.le_of_ble_eq_true rfl) dX7_readTuneOfText_8 ⟨Nat.le_of_ble_eq_true rfl, Nat.le_of_ble_eq_true rfl⟩ (fun H locs hP hD hS hz => ?_)
  have hP : va_P G vwCl [(w 0, .inr (7, [.ref (q 0), .ref (qz 0), .ref (h 0), .ref (t 0), .ref (gr 0), .ref (u 0), .ref (tr 0), .ref (oc 0), .int (Sw 0 8)])), (gr 0, .inr (0, [.int (nI (gS cd n 4 false (gEn cd n 4 false)).1), .int (nI (gS cd n 4 false (gEn cd n 4 false)).2), .int (bI false)])), (t 0, .inr (5, [.ref (t 1), .int (X 0 1)])), (t 1, .inl (T 1, 60, .inl (X 1))), (u 0, .inr (6, [.ref (u 1), .ref (u 2), .int (U 0 2)])), (u 1, .inl (T 0, 9, .inl (U 1))), (u 2, .inl (T 0, 3, .inl (U 2)))] H := kN.sub (is := [0, 4, 5, 6, 1, 2, 3]) hP rfl
  have hD : va_D A [(w 0, .inr (7, [.ref (q 0), .ref (qz 0), .ref (h 0), .ref (t 0), .ref (gr 0), .ref (u 0), .ref (tr 0), .ref (oc 0), .int (Sw 0 8)])), (gr 0, .inr (0, [.int (nI (gS cd n 4 false (gEn cd n 4 false)).1), .int (nI (gS cd n 4 false (gEn cd n 4 false)).2), .int (bI false)])), (t 0, .inr (5, [.ref (t 1), .int (X 0 1)])), (t 1, .inl (T 1, 60, .inl (X 1))), (u 0, .inr (6, [.ref (u 1), .ref (u 2), .int (U 0 2)])), (u 1, .inl (T 0, 9, .inl (U 1))), (u 2, .inl (T 0, 3, .inl (U 2)))] := hD.sub [0, 4, 5, 6, 1, 2, 3] rfl rfl
  refine lv_aload_n hx hb dX7_readTuneOfText_11 rfl (lv_at hl 0 rfl) ?_
  refine va_get (D := G) (ci := 7) (v := .ref (t 0)) (C := RX7) (T := TX7) (N := 9) hx hb hts hinX7 hown hK hP 0 rfl rfl 3 (by decide) lk29 (fun _ h9 => h9) rfl dX7_readTuneOfText_12 ?_
  refine va_get (D := G) (ci := 5) (v := .int (X 0 1)) (C := RX5) (T := TX5) (N := 2) hx hb hts hinX5 hown hK hP 2 rfl rfl 1 (by decide) lk177 (fun _ h9 => h9) rfl dX7_readTuneOfText_15 ?_
  refine n_top (y := nI n) hlen ?_
  refine n_icmp_lt (a := gEr cd n 4 false) (b := n) (tgt := 31) hx hb (by omega) (by omega) dX7_readTuneOfText_18 (by decide) (fun c_1 => ?_) (fun c_2 => ?_)
  · skip
    refine n_iconst hx hb 0 dX7_readTuneOfText_31 (by decide) ?_
    subst hQ
    have hP9 : va_P G vwCl (oX7 w q qz h t gr u tr oc Sw ++ oX0 T gr (gGr Gg cd n 4 false) ++ oX5 T t X ++ oX6 T u (rTu U cd n)) H := (by first | (rw [rTu_2 _ (bT_1 cd n (by omega))]; exact hP) | (rw [rTu_2 _ (bT_2 cd n (by assumption))]; exact hP) | (rw [rTu_1 _ (bT_3 cd n (by omega) (by assumption))]; exact hP))
    have hD9 : va_D A (oX7 w q qz h t gr u tr oc Sw ++ oX0 T gr (gGr Gg cd n 4 false) ++ oX5 T t X ++ oX6 T u (rTu U cd n)) := (by first | (rw [rTu_2 _ (bT_1 cd n (by omega))]; exact hD) | (rw [rTu_2 _ (bT_2 cd n (by assumption))]; exact hD) | (rw [rTu_1 _ (bT_3 cd n (by omega) (by assumption))]; exact hD))
    exact e_rwz hx hb hr hlocks (by first | rfl | exact nar_b _) hS (by first | (rw [bT_1 cd n (by omega)] <;> rfl) | (rw [bT_2 cd n (by assumption)] <;> rfl) | (rw [bT_3 cd n (by omega) (by assumption)] <;> rfl)) hP9 hD9 dX7_readTuneOfText_32
  · skip
    obtain ⟨hg1, hg2⟩ := gS_le cd n (st := 4) (by decide) false (gEn cd n 4 false)
    refine lv_aload_n hx hb dX7_readTuneOfText_21 rfl (lv_at hl 0 rfl) ?_
    refine va_get (D := G) (ci := 7) (v := .ref (gr 0)) (C := RX7) (T := TX7) (N := 9) hx hb hts hinX7 hown hK hP 0 rfl rfl 4 (by decide) lk36 (fun _ h9 => h9) rfl dX7_readTuneOfText_22 ?_
    refine k_roV (As := []) (rest := []) (wc := oX0 T gr (sc (sc (sc Gg 0 (nI (gS cd n 4 false (gEn cd n 4 false)).1)) 1 (nI (gS cd n 4 false (gEn cd n 4 false)).2)) 2 (bI false))) (d := 0) (v := bI (gMay (gS cd n 4 false (gEn cd n 4 false)).1 (gS cd n 4 false (gEn cd n 4 false)).2)) cx (c_X0_mayEnd l G T A gr (sc (sc (sc Gg 0 (nI (gS cd n 4 false (gEn cd n 4 false)).1)) 1 (nI (gS cd n 4 false (gEn cd n 4 false)).2)) 2 (bI false)) (gS cd n 4 false (gEn cd n 4 false)).1 (gS cd n 4 false (gEn cd n 4 false)).2 (by first | assumption | rfl | omega) (by omega) (by first | assumption | rfl | omega) (by omega)) (cwV 0 hts gX7_readTuneOfText_X0_mayEnd rfl rfl rfl (by decide +kernel) ⟨Nat.le_of_ble_eq_true rfl, Nat.le_of_ble_eq_true rfl⟩) (hP.sub (ws' := oX0 T gr (sc (sc (sc Gg 0 (nI (gS cd n 4 false (gEn cd n 4 false)).1)) 1 (nI (gS cd n 4 false (gEn cd n 4 false)).2)) 2 (bI false))) [1] rfl) hK (hE.kept hS.2.1) (va_recv hK hP (ci := 0) (q0 := 1) rfl rfl) rfl hl.1 rfl (Nat.le_of_ble_eq_true rfl) dX7_readTuneOfText_25 ⟨Nat.le_of_ble_eq_true rfl, Nat.le_of_ble_eq_true rfl⟩ ?_
    refine b_if_ne (b := gMay (gS cd n 4 false (gEn cd n 4 false)).1 (gS cd n 4 false (gEn cd n 4 false)).2) (tgt := 33) hx hb dX7_readTuneOfText_28 (by decide) (fun c_3 => ?_) (fun c_4 => ?_)
    · skip
      refine lv_aload_n hx hb dX7_readTuneOfText_33 rfl (lv_at hl 0 rfl) ?_
      refine va_get (D := G) (ci := 7) (v := .ref (u 0)) (C := RX7) (T := TX7) (N := 9) hx hb hts hinX7 hown hK hP 0 rfl rfl 5 (by decide) lk43 (fun _ h9 => h9) rfl dX7_readTuneOfText_34 ?_
      refine lv_aload_n hx hb dX7_readTuneOfText_37 rfl (lv_at hl 0 rfl) ?_
      refine va_get (D := G) (ci := 7) (v := .ref (t 0)) (C := RX7) (T := TX7) (N := 9) hx hb hts hinX7 hown hK hP 0 rfl rfl 3 (by decide) lk29 (fun _ h9 => h9) rfl dX7_readTuneOfText_38 ?_
      refine n_iconst hx hb 0 dX7_readTuneOfText_41 (by decide) ?_
      refine lv_aload_n hx hb dX7_readTuneOfText_42 rfl (lv_at hl 0 rfl) ?_
      refine va_get (D := G) (ci := 7) (v := .ref (t 0)) (C := RX7) (T := TX7) (N := 9) hx hb hts hinX7 hown hK hP 0 rfl rfl 3 (by decide) lk29 (fun _ h9 => h9) rfl dX7_readTuneOfText_43 ?_
      refine va_get (D := G) (ci := 5) (v := .int (X 0 1)) (C := RX5) (T := TX5) (N := 2) hx hb hts hinX5 hown hK hP 2 rfl rfl 1 (by decide) lk177 (fun _ h9 => h9) rfl dX7_readTuneOfText_46 ?_
      refine n_top (y := nI n) hlen ?_
      refine k_rvV (As := [.ref (t 0), .int (nI 0), .int (nI n)]) (rest := []) (wc := oX6 T u U ++ oX5 T t X) (wr := oX7 w q qz h t gr u tr oc Sw ++ oX0 T gr (sc (sc (sc Gg 0 (nI (gS cd n 4 false (gEn cd n 4 false)).1)) 1 (nI (gS cd n 4 false (gEn cd n 4 false)).2)) 2 (bI false))) (w1 := oX6 T u (sa (sa (sc U 2 (nI (tV cd n 0 (U 1) (U 2) (n - 0)).2.1)) 1 (tV cd n 0 (U 1) (U 2) (n - 0)).1) 2 (tV cd n 0 (U 1) (U 2) (n - 0)).2.2.1) ++ oX5 T t X) (d := 4) (mc := 0) (ms := 0) (isC := [4, 5, 6, 2, 3]) (isR := [0, 1]) cx (c_X6_read l G T H.size u t U X 0 n n cd (by omega) (by omega) (by first | assumption | rfl | omega) (by omega) (by first | assumption | rfl | omega) (by omega)) (cwV 3 hts gX7_readTuneOfText_X6_read rfl rfl rfl (by decide +kernel) ⟨Nat.le_of_ble_eq_true rfl, Nat.le_of_ble_eq_true rfl⟩) ⟨hP, hD, hS, hA, hE, hK, rfl, rfl, rfl, rfl, by decide⟩ (va_recv hK hP (ci := 6) (q0 := 4) rfl rfl) rfl hl.1 rfl (Nat.le_of_ble_eq_true rfl) dX7_readTuneOfText_49 ⟨Nat.le_of_ble_eq_true rfl, Nat.le_of_ble_eq_true rfl⟩ (fun H locs hP hD hS hz => ?_)
      have hP : va_P G vwCl [(w 0, .inr (7, [.ref (q 0), .ref (qz 0), .ref (h 0), .ref (t 0), .ref (gr 0), .ref (u 0), .ref (tr 0), .ref (oc 0), .int (Sw 0 8)])), (gr 0, .inr (0, [.int (nI (gS cd n 4 false (gEn cd n 4 false)).1), .int (nI (gS cd n 4 false (gEn cd n 4 false)).2), .int (bI false)])), (t 0, .inr (5, [.ref (t 1), .int (X 0 1)])), (t 1, .inl (T 1, 60, .inl (X 1))), (u 0, .inr (6, [.ref (u 1), .ref (u 2), .int (nI (tV cd n 0 ((U 1)) ((U 2)) (n - 0)).2.1)])), (u 1, .inl (T 0, 9, .inl (tV cd n 0 ((U 1)) ((U 2)) (n - 0)).1)), (u 2, .inl (T 0, 3, .inl (tV cd n 0 ((U 1)) ((U 2)) (n - 0)).2.2.1))] H := kN.sub (is := [0, 1, 5, 6, 2, 3, 4]) hP rfl
      have hD : va_D A [(w 0, .inr (7, [.ref (q 0), .ref (qz 0), .ref (h 0), .ref (t 0), .ref (gr 0), .ref (u 0), .ref (tr 0), .ref (oc 0), .int (Sw 0 8)])), (gr 0, .inr (0, [.int (nI (gS cd n 4 false (gEn cd n 4 false)).1), .int (nI (gS cd n 4 false (gEn cd n 4 false)).2), .int (bI false)])), (t 0, .inr (5, [.ref (t 1), .int (X 0 1)])), (t 1, .inl (T 1, 60, .inl (X 1))), (u 0, .inr (6, [.ref (u 1), .ref (u 2), .int (nI (tV cd n 0 ((U 1)) ((U 2)) (n - 0)).2.1)])), (u 1, .inl (T 0, 9, .inl (tV cd n 0 ((U 1)) ((U 2)) (n - 0)).1)), (u 2, .inl (T 0, 3, .inl (tV cd n 0 ((U 1)) ((U 2)) (n - 0)).2.2.1))] := hD.sub [0, 1, 5, 6, 2, 3, 4] rfl rfl
      refine n_iconst hx hb 1 dX7_readTuneOfText_52 (by decide) ?_
      subst hQ
      have hP9 : va_P G vwCl (oX7 w q qz h t gr u tr oc Sw ++ oX0 T gr (gGr Gg cd n 4 false) ++ oX5 T t X ++ oX6 T u (rTu U cd n)) H := (by first | (rw [rTu_2 _ (bT_1 cd n (by omega))]; exact hP) | (rw [rTu_2 _ (bT_2 cd n (by assumption))]; exact hP) | (rw [rTu_1 _ (bT_3 cd n (by omega) (by assumption))]; exact hP))
      have hD9 : va_D A (oX7 w q qz h t gr u tr oc Sw ++ oX0 T gr (gGr Gg cd n 4 false) ++ oX5 T t X ++ oX6 T u (rTu U cd n)) := (by first | (rw [rTu_2 _ (bT_1 cd n (by omega))]; exact hD) | (rw [rTu_2 _ (bT_2 cd n (by assumption))]; exact hD) | (rw [rTu_1 _ (bT_3 cd n (by omega) (by assumption))]; exact hD))
      exact e_rwz hx hb hr hlocks (by first | rfl | exact nar_b _) hS (by first | (rw [bT_1 cd n (by omega)] <;> rfl) | (rw [bT_2 cd n (by assumption)] <;> rfl) | (rw [bT_3 cd n (by omega) (by assumption)] <;> rfl)) hP9 hD9 dX7_readTuneOfText_53
    · skip
      refine n_iconst hx hb 0 dX7_readTuneOfText_31 (by decide) ?_
      subst hQ
      have hP9 : va_P G vwCl (oX7 w q qz h t gr u tr oc Sw ++ oX0 T gr (gGr Gg cd n 4 false) ++ oX5 T t X ++ oX6 T u (rTu U cd n)) H := (by first | (rw [rTu_2 _ (bT_1 cd n (by omega))]; exact hP) | (rw [rTu_2 _ (bT_2 cd n (by assumption))]; exact hP) | (rw [rTu_1 _ (bT_3 cd n (by omega) (by assumption))]; exact hP))
      have hD9 : va_D A (oX7 w q qz h t gr u tr oc Sw ++ oX0 T gr (gGr Gg cd n 4 false) ++ oX5 T t X ++ oX6 T u (rTu U cd n)) := (by first | (rw [rTu_2 _ (bT_1 cd n (by omega))]; exact hD) | (rw [rTu_2 _ (bT_2 cd n (by assumption))]; exact hD) | (rw [rTu_1 _ (bT_3 cd n (by omega) (by assumption))]; exact hD))
      exact e_rwz hx hb hr hlocks (by first | rfl | exact nar_b _) hS (by first | (rw [bT_1 cd n (by omega)] <;> rfl) | (rw [bT_2 cd n (by assumption)] <;> rfl) | (rw [bT_3 cd n (by omega) (by assumption)] <;> rfl)) hP9 hD9 dX7_readTuneOfText_32
set_option maxHeartbeats 4000000 in
set_option maxRecDepth 100000 in
theorem c_X7_reasonAgainstTune (l : Launch) (G : va_G) (T : Nat → ClassId) (sz : Nat) (w : Nat → Nat) (q : Nat → Nat) (qz : Nat → Nat) (h : Nat → Nat) (t : Nat → Nat) (gr : Nat → Nat) (u : Nat → Nat) (tr : Nat → Nat) (oc : Nat → Nat) (Sw : Nat → Nat → Int32) (S : Nat → Nat → Int32) (U : Nat → Nat → Int32) (K : Nat → Nat → Int32) (tl : Nat → Nat) (nt : Nat) (mm : Nat) (hnt : U 0 2 = nI nt) (hnt9 : nt ≤ 9) (htl : ∀ i : Nat, i < 20 → S 6 i = nI (tl i)) (htl8 : ∀ i : Nat, i < 20 → tl i ≤ 8) : RWi l yX7_reasonAgainstTune wsX7_reasonAgainstTune 5 0 0 G T sz (oX7 w q qz h t gr u tr oc Sw ++ oX3 T q S ++ oX6 T u U ++ oX4 T tr K) [.ref (w 0), .int (nI mm)] (pRA S tl U nt mm) (oX7 w q qz h t gr u tr oc Sw ++ oX3 T q S ++ oX6 T u U ++ oX4 T tr (gTO K S tl nt)) := by
  refine Met.ofW (cc := cX7_reasonAgainstTune) (maxL := 3) (ret := (some .int)) (by decide) rfl ?_
  intro p e s m args below meth c s₁ B hml hv
  obtain ⟨ha, hsz, hP, hK, hD0, hE0⟩ := hv
  have hx := B.exec
  have hb := B.bytes
  have hr := B.returns
  have hlocks := B.notSynchronized
  have hts := atoms_spec (ws := wsX7_reasonAgainstTune) B.pre
  have hown : s.vm.findClass RX7 = some m.cls := findClass_of_methodNamed B.named
  have cx : CallFix p m c cX7_reasonAgainstTune 3 s args wsX7_reasonAgainstTune RX7 := ⟨hx, hb, hml, hown, hts⟩
  subst hsz
  have hD := hD0.self (sz := s.heap.size)
  generalize hAe : va_A (oX7 w q qz h t gr u tr oc Sw ++ oX3 T q S ++ oX6 T u U ++ oX4 T tr K) s.heap.size = A at hD hE0 ⊢
  have hE : gE A s s.heap := hE0
  have hA : ∀ q : Nat, s.heap.size ≤ q → A q := fun q h => by rw [← hAe]; exact Or.inr h
  have hS : va_S A s.heap s.heap [] := va_S.rf
  refine w_entry ha (Nat.le_of_ble_eq_true rfl) (fun ls hl => ?_)
  refine w_q (fun Q0 hQ => ?_)
  have lk43 := hts (.fieldLink RX7 43 "WhistleTunes" "tune" "LWhistleTunes$Tune;") (by decide +kernel)
  have hinX7 : ∀ w ∈ wsX70, w ∈ wsX7_reasonAgainstTune := by decide +kernel
  have lk50 := hts (.fieldLink RX7 50 "WhistleTunes" "tree" "LWhistleTunes$ShapeTree;") (by decide +kernel)
  have lk10 := hts (.fieldLink RX7 10 "WhistleTunes" "school" "LWhistleTunes$School;") (by decide +kernel)
  have hl : lv_has ls 3 [(0, .ref (w 0)), (1, .int (nI mm))] := hl
  have hP : va_P G vwCl [(w 0, .inr (7, [.ref (q 0), .ref (qz 0), .ref (h 0), .ref (t 0), .ref (gr 0), .ref (u 0), .ref (tr 0), .ref (oc 0), .int (Sw 0 8)])), (q 0, .inr (3, [.int (S 0 0), .int (S 0 1), .int (S 0 2), .int (S 0 3), .ref (q 5), .ref (q 6), .ref (q 7), .ref (q 8), .ref (q 9), .ref (q 10), .ref (q 11), .ref (q 12), .ref (q 13), .ref (q 14), .ref (q 15), .ref (q 16)])), (q 5, .inl (T 0, 2, .inl (S 5))), (q 6, .inl (T 0, 20, .inl (S 6))), (q 7, .inl (T 0, 160, .inl (S 7))), (q 8, .inl (T 0, 20, .inl (S 8))), (q 9, .inl (T 0, 20, .inl (S 9))), (q 10, .inl (T 0, 20, .inl (S 10))), (q 11, .inl (T 0, 6, .inl (S 11))), (q 12, .inl (T 0, 6, .inl (S 12))), (q 13, .inl (T 0, 6, .inl (S 13))), (q 14, .inl (T 0, 6, .inl (S 14))), (q 15, .inl (T 0, 6, .inl (S 15))), (q 16, .inl (T 0, 2, .inl (S 16))), (u 0, .inr (6, [.ref (u 1), .ref (u 2), .int (U 0 2)])), (u 1, .inl (T 0, 9, .inl (U 1))), (u 2, .inl (T 0, 3, .inl (U 2))), (tr 0, .inr (4, [.ref (tr 1), .ref (tr 2), .int (K 0 2)])), (tr 1, .inl (T 0, 1127, .inl (K 1))), (tr 2, .inl (T 0, 161, .inl (K 2)))] s.heap := hP
  have hD : va_D A [(w 0, .inr (7, [.ref (q 0), .ref (qz 0), .ref (h 0), .ref (t 0), .ref (gr 0), .ref (u 0), .ref (tr 0), .ref (oc 0), .int (Sw 0 8)])), (q 0, .inr (3, [.int (S 0 0), .int (S 0 1), .int (S 0 2), .int (S 0 3), .ref (q 5), .ref (q 6), .ref (q 7), .ref (q 8), .ref (q 9), .ref (q 10), .ref (q 11), .ref (q 12), .ref (q 13), .ref (q 14), .ref (q 15), .ref (q 16)])), (q 5, .inl (T 0, 2, .inl (S 5))), (q 6, .inl (T 0, 20, .inl (S 6))), (q 7, .inl (T 0, 160, .inl (S 7))), (q 8, .inl (T 0, 20, .inl (S 8))), (q 9, .inl (T 0, 20, .inl (S 9))), (q 10, .inl (T 0, 20, .inl (S 10))), (q 11, .inl (T 0, 6, .inl (S 11))), (q 12, .inl (T 0, 6, .inl (S 12))), (q 13, .inl (T 0, 6, .inl (S 13))), (q 14, .inl (T 0, 6, .inl (S 14))), (q 15, .inl (T 0, 6, .inl (S 15))), (q 16, .inl (T 0, 2, .inl (S 16))), (u 0, .inr (6, [.ref (u 1), .ref (u 2), .int (U 0 2)])), (u 1, .inl (T 0, 9, .inl (U 1))), (u 2, .inl (T 0, 3, .inl (U 2))), (tr 0, .inr (4, [.ref (tr 1), .ref (tr 2), .int (K 0 2)])), (tr 1, .inl (T 0, 1127, .inl (K 1))), (tr 2, .inl (T 0, 161, .inl (K 2)))] := hD
  skip
  refine w_h (fun H locs hHe hLe => ?_)
  have hP : va_P G vwCl [(w 0, .inr (7, [.ref (q 0), .ref (qz 0), .ref (h 0), .ref (t 0), .ref (gr 0), .ref (u 0), .ref (tr 0), .ref (oc 0), .int (Sw 0 8)])), (q 0, .inr (3, [.int (S 0 0), .int (S 0 1), .int (S 0 2), .int (S 0 3), .ref (q 5), .ref (q 6), .ref (q 7), .ref (q 8), .ref (q 9), .ref (q 10), .ref (q 11), .ref (q 12), .ref (q 13), .ref (q 14), .ref (q 15), .ref (q 16)])), (q 5, .inl (T 0, 2, .inl (S 5))), (q 6, .inl (T 0, 20, .inl (S 6))), (q 7, .inl (T 0, 160, .inl (S 7))), (q 8, .inl (T 0, 20, .inl (S 8))), (q 9, .inl (T 0, 20, .inl (S 9))), (q 10, .inl (T 0, 20, .inl (S 10))), (q 11, .inl (T 0, 6, .inl (S 11))), (q 12, .inl (T 0, 6, .inl (S 12))), (q 13, .inl (T 0, 6, .inl (S 13))), (q 14, .inl (T 0, 6, .inl (S 14))), (q 15, .inl (T 0, 6, .inl (S 15))), (q 16, .inl (T 0, 2, .inl (S 16))), (u 0, .inr (6, [.ref (u 1), .ref (u 2), .int (U 0 2)])), (u 1, .inl (T 0, 9, .inl (U 1))), (u 2, .inl (T 0, 3, .inl (U 2))), (tr 0, .inr (4, [.ref (tr 1), .ref (tr 2), .int (K 0 2)])), (tr 1, .inl (T 0, 1127, .inl (K 1))), (tr 2, .inl (T 0, 161, .inl (K 2)))] H := by rw [hHe]; exact hP
  have hS : va_S A s.heap H locs := by rw [hHe, hLe]; exact hS
  refine lv_aload_n hx hb dX7_reasonAgainstTune_0 rfl (lv_at hl 0 rfl) ?_
  refine va_get (D := G) (ci := 7) (v := .ref (u 0)) (C := RX7) (T := TX7) (N := 9) hx hb hts hinX7 hown hK hP 0 rfl rfl 5 (by decide) lk43 (fun _ h9 => h9) rfl dX7_reasonAgainstTune_1 ?_
  refine k_roV (As := []) (rest := []) (wc := oX6 T u U) (d := 0) (v := bI (decide (2 ≤ nt ∧ nt ≤ 8))) cx (c_X6_isOfTuneLength l G T A u U nt (by first | assumption | rfl | omega) (by omega)) (cwV 0 hts gX7_reasonAgainstTune_X6_isOfTuneLength rfl rfl rfl (by decide +kernel) ⟨Nat.le_of_ble_eq_true rfl, Nat.le_of_ble_eq_true rfl⟩) (hP.sub (ws' := oX6 T u U) [14, 15, 16] rfl) hK (hE.kept hS.2.1) (va_recv hK hP (ci := 6) (q0 := 14) rfl rfl) rfl hl.1 rfl (Nat.le_of_ble_eq_true rfl) dX7_reasonAgainstTune_4 ⟨Nat.le_of_ble_eq_true rfl, Nat.le_of_ble_eq_true rfl⟩ ?_
  refine b_if_ne (b := decide (2 ≤ nt ∧ nt ≤ 8)) (tgt := 12) hx hb dX7_reasonAgainstTune_7 (by decide) (fun c_1 => ?_) (fun c_2 => ?_)
  · skip
    refine lv_aload_n hx hb dX7_reasonAgainstTune_12 rfl (lv_at hl 0 rfl) ?_
    refine va_get (D := G) (ci := 7) (v := .ref (tr 0)) (C := RX7) (T := TX7) (N := 9) hx hb hts hinX7 hown hK hP 0 rfl rfl 6 (by decide) lk50 (fun _ h9 => h9) rfl dX7_reasonAgainstTune_13 ?_
    refine lv_aload_n hx hb dX7_reasonAgainstTune_16 rfl (lv_at hl 0 rfl) ?_
    refine va_get (D := G) (ci := 7) (v := .ref (q 0)) (C := RX7) (T := TX7) (N := 9) hx hb hts hinX7 hown hK hP 0 rfl rfl 0 (by decide) lk10 (fun _ h9 => h9) rfl dX7_reasonAgainstTune_17 ?_
    refine k_rvV (As := [.ref (q 0)]) (rest := []) (wc := oX4 T tr K ++ oX3 T q S) (wr := oX7 w q qz h t gr u tr oc Sw ++ oX6 T u U) (w1 := oX4 T tr (sa (sa (sc K 2 (nI (tG S tl 20).2.2)) 1 (fun i => nI ((tG S tl 20).1 i))) 2 (tG S tl 20).2.1) ++ oX3 T q S) (d := 4) (mc := 0) (ms := 0) (isC := [17, 18, 19, 1, 2, 3, 4, 5, 6, 7, 8, 9, 10, 11, 12, 13]) (isR := [0, 14, 15, 16]) cx (c_X4_growFrom l G T H.size tr q K S tl htl htl8) (cwV 1 hts gX7_reasonAgainstTune_X4_growFrom rfl rfl rfl (by decide +kernel) ⟨Nat.le_of_ble_eq_true rfl, Nat.le_of_ble_eq_true rfl⟩) ⟨hP, hD, hS, hA, hE, hK, rfl, rfl, rfl, rfl, by decide⟩ (va_recv hK hP (ci := 4) (q0 := 17) rfl rfl) rfl hl.1 rfl (Nat.le_of_ble_eq_true rfl) dX7_reasonAgainstTune_20 ⟨Nat.le_of_ble_eq_true rfl, Nat.le_of_ble_eq_true rfl⟩ (fun H locs hP hD hS hz => ?_)
    have hP : va_P G vwCl [(w 0, .inr (7, [.ref (q 0), .ref (qz 0), .ref (h 0), .ref (t 0), .ref (gr 0), .ref (u 0), .ref (tr 0), .ref (oc 0), .int (Sw 0 8)])), (q 0, .inr (3, [.int (S 0 0), .int (S 0 1), .int (S 0 2), .int (S 0 3), .ref (q 5), .ref (q 6), .ref (q 7), .ref (q 8), .ref (q 9), .ref (q 10), .ref (q 11), .ref (q 12), .ref (q 13), .ref (q 14), .ref (q 15), .ref (q 16)])), (q 5, .inl (T 0, 2, .inl (S 5))), (q 6, .inl (T 0, 20, .inl (S 6))), (q 7, .inl (T 0, 160, .inl (S 7))), (q 8, .inl (T 0, 20, .inl (S 8))), (q 9, .inl (T 0, 20, .inl (S 9))), (q 10, .inl (T 0, 20, .inl (S 10))), (q 11, .inl (T 0, 6, .inl (S 11))), (q 12, .inl (T 0, 6, .inl (S 12))), (q 13, .inl (T 0, 6, .inl (S 13))), (q 14, .inl (T 0, 6, .inl (S 14))), (q 15, .inl (T 0, 6, .inl (S 15))), (q 16, .inl (T 0, 2, .inl (S 16))), (u 0, .inr (6, [.ref (u 1), .ref (u 2), .int (U 0 2)])), (u 1, .inl (T 0, 9, .inl (U 1))), (u 2, .inl (T 0, 3, .inl (U 2))), (tr 0, .inr (4, [.ref (tr 1), .ref (tr 2), .int (nI (tG S tl 20).2.2)])), (tr 1, .inl (T 0, 1127, .inl (fun i => nI ((tG S tl 20).1 i)))), (tr 2, .inl (T 0, 161, .inl (tG S tl 20).2.1))] H := kN.sub (is := [0, 7, 8, 9, 10, 11, 12, 13, 14, 15, 16, 17, 18, 19, 1, 2, 3, 4, 5, 6]) hP rfl
    have hD : va_D A [(w 0, .inr (7, [.ref (q 0), .ref (qz 0), .ref (h 0), .ref (t 0), .ref (gr 0), .ref (u 0), .ref (tr 0), .ref (oc 0), .int (Sw 0 8)])), (q 0, .inr (3, [.int (S 0 0), .int (S 0 1), .int (S 0 2), .int (S 0 3), .ref (q 5), .ref (q 6), .ref (q 7), .ref (q 8), .ref (q 9), .ref (q 10), .ref (q 11), .ref (q 12), .ref (q 13), .ref (q 14), .ref (q 15), .ref (q 16)])), (q 5, .inl (T 0, 2, .inl (S 5))), (q 6, .inl (T 0, 20, .inl (S 6))), (q 7, .inl (T 0, 160, .inl (S 7))), (q 8, .inl (T 0, 20, .inl (S 8))), (q 9, .inl (T 0, 20, .inl (S 9))), (q 10, .inl (T 0, 20, .inl (S 10))), (q 11, .inl (T 0, 6, .inl (S 11))), (q 12, .inl (T 0, 6, .inl (S 12))), (q 13, .inl (T 0, 6, .inl (S 13))), (q 14, .inl (T 0, 6, .inl (S 14))), (q 15, .inl (T 0, 6, .inl (S 15))), (q 16, .inl (T 0, 2, .inl (S 16))), (u 0, .inr (6, [.ref (u 1), .ref (u 2), .int (U 0 2)])), (u 1, .inl (T 0, 9, .inl (U 1))), (u 2, .inl (T 0, 3, .inl (U 2))), (tr 0, .inr (4, [.ref (tr 1), .ref (tr 2), .int (nI (tG S tl 20).2.2)])), (tr 1, .inl (T 0, 1127, .inl (fun i => nI ((tG S tl 20).1 i)))), (tr 2, .inl (T 0, 161, .inl (tG S tl 20).2.1))] := hD.sub [0, 7, 8, 9, 10, 11, 12, 13, 14, 15, 16, 17, 18, 19, 1, 2, 3, 4, 5, 6] rfl rfl
    refine lv_aload_n hx hb dX7_reasonAgainstTune_23 rfl (lv_at hl 0 rfl) ?_
    refine va_get (D := G) (ci := 7) (v := .ref (tr 0)) (C := RX7) (T := TX7) (N := 9) hx hb hts hinX7 hown hK hP 0 rfl rfl 6 (by decide) lk50 (fun _ h9 => h9) rfl dX7_reasonAgainstTune_24 ?_
    refine lv_aload_n hx hb dX7_reasonAgainstTune_27 rfl (lv_at hl 0 rfl) ?_
    refine va_get (D := G) (ci := 7) (v := .ref (u 0)) (C := RX7) (T := TX7) (N := 9) hx hb hts hinX7 hown hK hP 0 rfl rfl 5 (by decide) lk43 (fun _ h9 => h9) rfl dX7_reasonAgainstTune_28 ?_
    refine k_roV (As := [.ref (u 0)]) (rest := []) (wc := oX4 T tr (sa (sa (sc K 2 (nI (tG S tl 20).2.2)) 1 (fun i => nI ((tG S tl 20).1 i))) 2 (tG S tl 20).2.1) ++ oX6 T u U) (d := 2) (v := mOf (tG S tl 20).1 ((tG S tl 20).2.1) (nSh ((U 1))) nt 0 0) cx (c_X4_messageOf l G T A tr u (sa (sa (sc K 2 (nI (tG S tl 20).2.2)) 1 (fun i => nI ((tG S tl 20).1 i))) 2 (tG S tl 20).2.1) U nt (tG S tl 20).1 (by first | assumption | rfl | omega) (by omega) rfl (fun e => Nat.le_trans ((tG_ok S tl 20).2 e) (tG_ok S tl 20).1)) (cwV 1 hts gX7_reasonAgainstTune_X4_messageOf rfl rfl rfl (by decide +kernel) ⟨Nat.le_of_ble_eq_true rfl, Nat.le_of_ble_eq_true rfl⟩) (hP.sub (ws' := oX4 T tr (sa (sa (sc K 2 (nI (tG S tl 20).2.2)) 1 (fun i => nI ((tG S tl 20).1 i))) 2 (tG S tl 20).2.1) ++ oX6 T u U) [17, 18, 19, 14, 15, 16] rfl) hK (hE.kept hS.2.1) (va_recv hK hP (ci := 4) (q0 := 17) rfl rfl) rfl hl.1 rfl (Nat.le_of_ble_eq_true rfl) dX7_reasonAgainstTune_31 ⟨Nat.le_of_ble_eq_true rfl, Nat.le_of_ble_eq_true rfl⟩ ?_
    refine lv_istore_n (lv' := [(2, .int (mOf (tG S tl 20).1 ((tG S tl 20).2.1) (nSh ((U 1))) nt 0 0)), (0, .ref (w 0)), (1, .int (nI mm))]) hx hb dX7_reasonAgainstTune_34 rfl hl (by decide) rfl (fun ls hl => ?_)
    refine lv_iload_n hx hb dX7_reasonAgainstTune_35 rfl (lv_at hl 0 rfl) ?_
    refine lv_iconst (v := -1) hx hb dX7_reasonAgainstTune_36 (by decide) ?_
    refine lv_icmp_eq (tgt := 45) hx hb dX7_reasonAgainstTune_37 (by decide) (fun c_3 => ?_) (fun c_4 => ?_)
    · skip
      refine n_iconst hx hb 0 dX7_reasonAgainstTune_45 (by decide) ?_
      refine lv_goto (tgt := 50) hx hb dX7_reasonAgainstTune_46 (by decide) ?_
      subst hQ
      have hP9 : va_P G vwCl (oX7 w q qz h t gr u tr oc Sw ++ oX3 T q S ++ oX6 T u U ++ oX4 T tr (gTO K S tl nt)) H := (by first | (rw [gTO_1 K S tl nt (by assumption)]; exact hP) | (rw [gTO_2 K S tl nt (by assumption)]; exact hP))
      have hD9 : va_D A (oX7 w q qz h t gr u tr oc Sw ++ oX3 T q S ++ oX6 T u U ++ oX4 T tr (gTO K S tl nt)) := (by first | (rw [gTO_1 K S tl nt (by assumption)]; exact hD) | (rw [gTO_2 K S tl nt (by assumption)]; exact hD))
      exact e_rwi hx hb hr hlocks hS (by first | exact pRA_3 S tl U nt mm (by assumption) | exact pRA_0 S tl U nt mm (by assumption) (Or.inl (by assumption)) | exact pRA_0 S tl U nt mm (by assumption) (Or.inr (by assumption)) | exact pRA_4 S tl U nt mm (by assumption) (by assumption) (by assumption)) hP9 hD9 dX7_reasonAgainstTune_50
    · skip
      refine lv_iload_n hx hb dX7_reasonAgainstTune_40 rfl (lv_at hl 0 rfl) ?_
      refine lv_iload_n hx hb dX7_reasonAgainstTune_41 rfl (lv_at hl 2 rfl) ?_
      refine lv_icmp_ne (tgt := 49) hx hb dX7_reasonAgainstTune_42 (by decide) (fun c_5 => ?_) (fun c_6 => ?_)
      · skip
        refine n_iconst hx hb 4 dX7_reasonAgainstTune_49 (by decide) ?_
        subst hQ
        have hP9 : va_P G vwCl (oX7 w q qz h t gr u tr oc Sw ++ oX3 T q S ++ oX6 T u U ++ oX4 T tr (gTO K S tl nt)) H := (by first | (rw [gTO_1 K S tl nt (by assumption)]; exact hP) | (rw [gTO_2 K S tl nt (by assumption)]; exact hP))
        have hD9 : va_D A (oX7 w q qz h t gr u tr oc Sw ++ oX3 T q S ++ oX6 T u U ++ oX4 T tr (gTO K S tl nt)) := (by first | (rw [gTO_1 K S tl nt (by assumption)]; exact hD) | (rw [gTO_2 K S tl nt (by assumption)]; exact hD))
        exact e_rwi hx hb hr hlocks hS (by first | exact pRA_3 S tl U nt mm (by assumption) | exact pRA_0 S tl U nt mm (by assumption) (Or.inl (by assumption)) | exact pRA_0 S tl U nt mm (by assumption) (Or.inr (by assumption)) | exact pRA_4 S tl U nt mm (by assumption) (by assumption) (by assumption)) hP9 hD9 dX7_reasonAgainstTune_50
      · skip
        refine n_iconst hx hb 0 dX7_reasonAgainstTune_45 (by decide) ?_
        refine lv_goto (tgt := 50) hx hb dX7_reasonAgainstTune_46 (by decide) ?_
        subst hQ
        have hP9 : va_P G vwCl (oX7 w q qz h t gr u tr oc Sw ++ oX3 T q S ++ oX6 T u U ++ oX4 T tr (gTO K S tl nt)) H := (by first | (rw [gTO_1 K S tl nt (by assumption)]; exact hP) | (rw [gTO_2 K S tl nt (by assumption)]; exact hP))
        have hD9 : va_D A (oX7 w q qz h t gr u tr oc Sw ++ oX3 T q S ++ oX6 T u U ++ oX4 T tr (gTO K S tl nt)) := (by first | (rw [gTO_1 K S tl nt (by assumption)]; exact hD) | (rw [gTO_2 K S tl nt (by assumption)]; exact hD))
        exact e_rwi hx hb hr hlocks hS (by first | exact pRA_3 S tl U nt mm (by assumption) | exact pRA_0 S tl U nt mm (by assumption) (Or.inl (by assumption)) | exact pRA_0 S tl U nt mm (by assumption) (Or.inr (by assumption)) | exact pRA_4 S tl U nt mm (by assumption) (by assumption) (by assumption)) hP9 hD9 dX7_reasonAgainstTune_50
  · skip
    refine n_iconst hx hb 3 dX7_reasonAgainstTune_10 (by decide) ?_
    subst hQ
    have hP9 : va_P G vwCl (oX7 w q qz h t gr u tr oc Sw ++ oX3 T q S ++ oX6 T u U ++ oX4 T tr (gTO K S tl nt)) H := (by first | (rw [gTO_1 K S tl nt (by assumption)]; exact hP) | (rw [gTO_2 K S tl nt (by assumption)]; exact hP))
    have hD9 : va_D A (oX7 w q qz h t gr u tr oc Sw ++ oX3 T q S ++ oX6 T u U ++ oX4 T tr (gTO K S tl nt)) := (by first | (rw [gTO_1 K S tl nt (by assumption)]; exact hD) | (rw [gTO_2 K S tl nt (by assumption)]; exact hD))
    exact e_rwi hx hb hr hlocks hS (by first | exact pRA_3 S tl U nt mm (by assumption) | exact pRA_0 S tl U nt mm (by assumption) (Or.inl (by assumption)) | exact pRA_0 S tl U nt mm (by assumption) (Or.inr (by assumption)) | exact pRA_4 S tl U nt mm (by assumption) (by assumption) (by assumption)) hP9 hD9 dX7_reasonAgainstTune_11
set_option maxHeartbeats 4000000 in
set_option maxRecDepth 100000 in
theorem c_X7_messageOfShape (l : Launch) (G : va_G) (T : Nat → ClassId) (sz : Nat) (w : Nat → Nat) (q : Nat → Nat) (qz : Nat → Nat) (h : Nat → Nat) (t : Nat → Nat) (gr : Nat → Nat) (u : Nat → Nat) (tr : Nat → Nat) (oc : Nat → Nat) (Sw : Nat → Nat → Int32) (S : Nat → Nat → Int32) (U : Nat → Nat → Int32) (K : Nat → Nat → Int32) (tl : Nat → Nat) (nt : Nat) (hnt : U 0 2 = nI nt) (hnt9 : nt ≤ 9) (htl : ∀ i : Nat, i < 20 → S 6 i = nI (tl i)) (htl8 : ∀ i : Nat, i < 20 → tl i ≤ 8) : RWi l yX7_messageOfShape wsX7_messageOfShape 5 0 0 G T sz (oX7 w q qz h t gr u tr oc Sw ++ oX3 T q S ++ oX6 T u U ++ oX4 T tr K) [.ref (w 0)] (pMS S tl U nt) (oX7 w q qz h t gr u tr oc Sw ++ oX3 T q S ++ oX6 T u U ++ oX4 T tr (gTO K S tl nt)) := by
  refine Met.ofW (cc := cX7_messageOfShape) (maxL := 1) (ret := (some .int)) (by decide) rfl ?_
  intro p e s m args below meth c s₁ B hml hv
  obtain ⟨ha, hsz, hP, hK, hD0, hE0⟩ := hv
  have hx := B.exec
  have hb := B.bytes
  have hr := B.returns
  have hlocks := B.notSynchronized
  have hts := atoms_spec (ws := wsX7_messageOfShape) B.pre
  have hown : s.vm.findClass RX7 = some m.cls := findClass_of_methodNamed B.named
  have cx : CallFix p m c cX7_messageOfShape 1 s args wsX7_messageOfShape RX7 := ⟨hx, hb, hml, hown, hts⟩
  subst hsz
  have hD := hD0.self (sz := s.heap.size)
  generalize hAe : va_A (oX7 w q qz h t gr u tr oc Sw ++ oX3 T q S ++ oX6 T u U ++ oX4 T tr K) s.heap.size = A at hD hE0 ⊢
  have hE : gE A s s.heap := hE0
  have hA : ∀ q : Nat, s.heap.size ≤ q → A q := fun q h => by rw [← hAe]; exact Or.inr h
  have hS : va_S A s.heap s.heap [] := va_S.rf
  refine w_entry ha (Nat.le_of_ble_eq_true rfl) (fun ls hl => ?_)
  refine w_q (fun Q0 hQ => ?_)
  have lk43 := hts (.fieldLink RX7 43 "WhistleTunes" "tune" "LWhistleTunes$Tune;") (by decide +kernel)
  have hinX7 : ∀ w ∈ wsX70, w ∈ wsX7_messageOfShape := by decide +kernel
  have lk50 := hts (.fieldLink RX7 50 "WhistleTunes" "tree" "LWhistleTunes$ShapeTree;") (by decide +kernel)
  have lk10 := hts (.fieldLink RX7 10 "WhistleTunes" "school" "LWhistleTunes$School;") (by decide +kernel)
  have hl : lv_has ls 1 [(0, .ref (w 0))] := hl
  have hP : va_P G vwCl [(w 0, .inr (7, [.ref (q 0), .ref (qz 0), .ref (h 0), .ref (t 0), .ref (gr 0), .ref (u 0), .ref (tr 0), .ref (oc 0), .int (Sw 0 8)])), (q 0, .inr (3, [.int (S 0 0), .int (S 0 1), .int (S 0 2), .int (S 0 3), .ref (q 5), .ref (q 6), .ref (q 7), .ref (q 8), .ref (q 9), .ref (q 10), .ref (q 11), .ref (q 12), .ref (q 13), .ref (q 14), .ref (q 15), .ref (q 16)])), (q 5, .inl (T 0, 2, .inl (S 5))), (q 6, .inl (T 0, 20, .inl (S 6))), (q 7, .inl (T 0, 160, .inl (S 7))), (q 8, .inl (T 0, 20, .inl (S 8))), (q 9, .inl (T 0, 20, .inl (S 9))), (q 10, .inl (T 0, 20, .inl (S 10))), (q 11, .inl (T 0, 6, .inl (S 11))), (q 12, .inl (T 0, 6, .inl (S 12))), (q 13, .inl (T 0, 6, .inl (S 13))), (q 14, .inl (T 0, 6, .inl (S 14))), (q 15, .inl (T 0, 6, .inl (S 15))), (q 16, .inl (T 0, 2, .inl (S 16))), (u 0, .inr (6, [.ref (u 1), .ref (u 2), .int (U 0 2)])), (u 1, .inl (T 0, 9, .inl (U 1))), (u 2, .inl (T 0, 3, .inl (U 2))), (tr 0, .inr (4, [.ref (tr 1), .ref (tr 2), .int (K 0 2)])), (tr 1, .inl (T 0, 1127, .inl (K 1))), (tr 2, .inl (T 0, 161, .inl (K 2)))] s.heap := hP
  have hD : va_D A [(w 0, .inr (7, [.ref (q 0), .ref (qz 0), .ref (h 0), .ref (t 0), .ref (gr 0), .ref (u 0), .ref (tr 0), .ref (oc 0), .int (Sw 0 8)])), (q 0, .inr (3, [.int (S 0 0), .int (S 0 1), .int (S 0 2), .int (S 0 3), .ref (q 5), .ref (q 6), .ref (q 7), .ref (q 8), .ref (q 9), .ref (q 10), .ref (q 11), .ref (q 12), .ref (q 13), .ref (q 14), .ref (q 15), .ref (q 16)])), (q 5, .inl (T 0, 2, .inl (S 5))), (q 6, .inl (T 0, 20, .inl (S 6))), (q 7, .inl (T 0, 160, .inl (S 7))), (q 8, .inl (T 0, 20, .inl (S 8))), (q 9, .inl (T 0, 20, .inl (S 9))), (q 10, .inl (T 0, 20, .inl (S 10))), (q 11, .inl (T 0, 6, .inl (S 11))), (q 12, .inl (T 0, 6, .inl (S 12))), (q 13, .inl (T 0, 6, .inl (S 13))), (q 14, .inl (T 0, 6, .inl (S 14))), (q 15, .inl (T 0, 6, .inl (S 15))), (q 16, .inl (T 0, 2, .inl (S 16))), (u 0, .inr (6, [.ref (u 1), .ref (u 2), .int (U 0 2)])), (u 1, .inl (T 0, 9, .inl (U 1))), (u 2, .inl (T 0, 3, .inl (U 2))), (tr 0, .inr (4, [.ref (tr 1), .ref (tr 2), .int (K 0 2)])), (tr 1, .inl (T 0, 1127, .inl (K 1))), (tr 2, .inl (T 0, 161, .inl (K 2)))] := hD
  skip
  refine w_h (fun H locs hHe hLe => ?_)
  have hP : va_P G vwCl [(w 0, .inr (7, [.ref (q 0), .ref (qz 0), .ref (h 0), .ref (t 0), .ref (gr 0), .ref (u 0), .ref (tr 0), .ref (oc 0), .int (Sw 0 8)])), (q 0, .inr (3, [.int (S 0 0), .int (S 0 1), .int (S 0 2), .int (S 0 3), .ref (q 5), .ref (q 6), .ref (q 7), .ref (q 8), .ref (q 9), .ref (q 10), .ref (q 11), .ref (q 12), .ref (q 13), .ref (q 14), .ref (q 15), .ref (q 16)])), (q 5, .inl (T 0, 2, .inl (S 5))), (q 6, .inl (T 0, 20, .inl (S 6))), (q 7, .inl (T 0, 160, .inl (S 7))), (q 8, .inl (T 0, 20, .inl (S 8))), (q 9, .inl (T 0, 20, .inl (S 9))), (q 10, .inl (T 0, 20, .inl (S 10))), (q 11, .inl (T 0, 6, .inl (S 11))), (q 12, .inl (T 0, 6, .inl (S 12))), (q 13, .inl (T 0, 6, .inl (S 13))), (q 14, .inl (T 0, 6, .inl (S 14))), (q 15, .inl (T 0, 6, .inl (S 15))), (q 16, .inl (T 0, 2, .inl (S 16))), (u 0, .inr (6, [.ref (u 1), .ref (u 2), .int (U 0 2)])), (u 1, .inl (T 0, 9, .inl (U 1))), (u 2, .inl (T 0, 3, .inl (U 2))), (tr 0, .inr (4, [.ref (tr 1), .ref (tr 2), .int (K 0 2)])), (tr 1, .inl (T 0, 1127, .inl (K 1))), (tr 2, .inl (T 0, 161, .inl (K 2)))] H := by rw [hHe]; exact hP
  have hS : va_S A s.heap H locs := by rw [hHe, hLe]; exact hS
  refine lv_aload_n hx hb dX7_messageOfShape_0 rfl (lv_at hl 0 rfl) ?_
  refine va_get (D := G) (ci := 7) (v := .ref (u 0)) (C := RX7) (T := TX7) (N := 9) hx hb hts hinX7 hown hK hP 0 rfl rfl 5 (by decide) lk43 (fun _ h9 => h9) rfl dX7_messageOfShape_1 ?_
  refine k_roV (As := []) (rest := []) (wc := oX6 T u U) (d := 0) (v := bI (decide (2 ≤ nt ∧ nt ≤ 8))) cx (c_X6_isOfTuneLength l G T A u U nt (by first | assumption | rfl | omega) (by omega)) (cwV 0 hts gX7_messageOfShape_X6_isOfTuneLength rfl rfl rfl (by decide +kernel) ⟨Nat.le_of_ble_eq_true rfl, Nat.le_of_ble_eq_true rfl⟩) (hP.sub (ws' := oX6 T u U) [14, 15, 16] rfl) hK (hE.kept hS.2.1) (va_recv hK hP (ci := 6) (q0 := 14) rfl rfl) rfl hl.1 rfl (Nat.le_of_ble_eq_true rfl) dX7_messageOfShape_4 ⟨Nat.le_of_ble_eq_true rfl, Nat.le_of_ble_eq_true rfl⟩ ?_
  refine b_if_ne (b := decide (2 ≤ nt ∧ nt ≤ 8)) (tgt := 12) hx hb dX7_messageOfShape_7 (by decide) (fun c_1 => ?_) (fun c_2 => ?_)
  · skip
    refine lv_aload_n hx hb dX7_messageOfShape_12 rfl (lv_at hl 0 rfl) ?_
    refine va_get (D := G) (ci := 7) (v := .ref (tr 0)) (C := RX7) (T := TX7) (N := 9) hx hb hts hinX7 hown hK hP 0 rfl rfl 6 (by decide) lk50 (fun _ h9 => h9) rfl dX7_messageOfShape_13 ?_
    refine lv_aload_n hx hb dX7_messageOfShape_16 rfl (lv_at hl 0 rfl) ?_
    refine va_get (D := G) (ci := 7) (v := .ref (q 0)) (C := RX7) (T := TX7) (N := 9) hx hb hts hinX7 hown hK hP 0 rfl rfl 0 (by decide) lk10 (fun _ h9 => h9) rfl dX7_messageOfShape_17 ?_
    refine k_rvV (As := [.ref (q 0)]) (rest := []) (wc := oX4 T tr K ++ oX3 T q S) (wr := oX7 w q qz h t gr u tr oc Sw ++ oX6 T u U) (w1 := oX4 T tr (sa (sa (sc K 2 (nI (tG S tl 20).2.2)) 1 (fun i => nI ((tG S tl 20).1 i))) 2 (tG S tl 20).2.1) ++ oX3 T q S) (d := 4) (mc := 0) (ms := 0) (isC := [17, 18, 19, 1, 2, 3, 4, 5, 6, 7, 8, 9, 10, 11, 12, 13]) (isR := [0, 14, 15, 16]) cx (c_X4_growFrom l G T H.size tr q K S tl htl htl8) (cwV 1 hts gX7_messageOfShape_X4_growFrom rfl rfl rfl (by decide +kernel) ⟨Nat.le_of_ble_eq_true rfl, Nat.le_of_ble_eq_true rfl⟩) ⟨hP, hD, hS, hA, hE, hK, rfl, rfl, rfl, rfl, by decide⟩ (va_recv hK hP (ci := 4) (q0 := 17) rfl rfl) rfl hl.1 rfl (Nat.le_of_ble_eq_true rfl) dX7_messageOfShape_20 ⟨Nat.le_of_ble_eq_true rfl, Nat.le_of_ble_eq_true rfl⟩ (fun H locs hP hD hS hz => ?_)
    have hP : va_P G vwCl [(w 0, .inr (7, [.ref (q 0), .ref (qz 0), .ref (h 0), .ref (t 0), .ref (gr 0), .ref (u 0), .ref (tr 0), .ref (oc 0), .int (Sw 0 8)])), (q 0, .inr (3, [.int (S 0 0), .int (S 0 1), .int (S 0 2), .int (S 0 3), .ref (q 5), .ref (q 6), .ref (q 7), .ref (q 8), .ref (q 9), .ref (q 10), .ref (q 11), .ref (q 12), .ref (q 13), .ref (q 14), .ref (q 15), .ref (q 16)])), (q 5, .inl (T 0, 2, .inl (S 5))), (q 6, .inl (T 0, 20, .inl (S 6))), (q 7, .inl (T 0, 160, .inl (S 7))), (q 8, .inl (T 0, 20, .inl (S 8))), (q 9, .inl (T 0, 20, .inl (S 9))), (q 10, .inl (T 0, 20, .inl (S 10))), (q 11, .inl (T 0, 6, .inl (S 11))), (q 12, .inl (T 0, 6, .inl (S 12))), (q 13, .inl (T 0, 6, .inl (S 13))), (q 14, .inl (T 0, 6, .inl (S 14))), (q 15, .inl (T 0, 6, .inl (S 15))), (q 16, .inl (T 0, 2, .inl (S 16))), (u 0, .inr (6, [.ref (u 1), .ref (u 2), .int (U 0 2)])), (u 1, .inl (T 0, 9, .inl (U 1))), (u 2, .inl (T 0, 3, .inl (U 2))), (tr 0, .inr (4, [.ref (tr 1), .ref (tr 2), .int (nI (tG S tl 20).2.2)])), (tr 1, .inl (T 0, 1127, .inl (fun i => nI ((tG S tl 20).1 i)))), (tr 2, .inl (T 0, 161, .inl (tG S tl 20).2.1))] H := kN.sub (is := [0, 7, 8, 9, 10, 11, 12, 13, 14, 15, 16, 17, 18, 19, 1, 2, 3, 4, 5, 6]) hP rfl
    have hD : va_D A [(w 0, .inr (7, [.ref (q 0), .ref (qz 0), .ref (h 0), .ref (t 0), .ref (gr 0), .ref (u 0), .ref (tr 0), .ref (oc 0), .int (Sw 0 8)])), (q 0, .inr (3, [.int (S 0 0), .int (S 0 1), .int (S 0 2), .int (S 0 3), .ref (q 5), .ref (q 6), .ref (q 7), .ref (q 8), .ref (q 9), .ref (q 10), .ref (q 11), .ref (q 12), .ref (q 13), .ref (q 14), .ref (q 15), .ref (q 16)])), (q 5, .inl (T 0, 2, .inl (S 5))), (q 6, .inl (T 0, 20, .inl (S 6))), (q 7, .inl (T 0, 160, .inl (S 7))), (q 8, .inl (T 0, 20, .inl (S 8))), (q 9, .inl (T 0, 20, .inl (S 9))), (q 10, .inl (T 0, 20, .inl (S 10))), (q 11, .inl (T 0, 6, .inl (S 11))), (q 12, .inl (T 0, 6, .inl (S 12))), (q 13, .inl (T 0, 6, .inl (S 13))), (q 14, .inl (T 0, 6, .inl (S 14))), (q 15, .inl (T 0, 6, .inl (S 15))), (q 16, .inl (T 0, 2, .inl (S 16))), (u 0, .inr (6, [.ref (u 1), .ref (u 2), .int (U 0 2)])), (u 1, .inl (T 0, 9, .inl (U 1))), (u 2, .inl (T 0, 3, .inl (U 2))), (tr 0, .inr (4, [.ref (tr 1), .ref (tr 2), .int (nI (tG S tl 20).2.2)])), (tr 1, .inl (T 0, 1127, .inl (fun i => nI ((tG S tl 20).1 i)))), (tr 2, .inl (T 0, 161, .inl (tG S tl 20).2.1))] := hD.sub [0, 7, 8, 9, 10, 11, 12, 13, 14, 15, 16, 17, 18, 19, 1, 2, 3, 4, 5, 6] rfl rfl
    refine lv_aload_n hx hb dX7_messageOfShape_23 rfl (lv_at hl 0 rfl) ?_
    refine va_get (D := G) (ci := 7) (v := .ref (tr 0)) (C := RX7) (T := TX7) (N := 9) hx hb hts hinX7 hown hK hP 0 rfl rfl 6 (by decide) lk50 (fun _ h9 => h9) rfl dX7_messageOfShape_24 ?_
    refine lv_aload_n hx hb dX7_messageOfShape_27 rfl (lv_at hl 0 rfl) ?_
    refine va_get (D := G) (ci := 7) (v := .ref (u 0)) (C := RX7) (T := TX7) (N := 9) hx hb hts hinX7 hown hK hP 0 rfl rfl 5 (by decide) lk43 (fun _ h9 => h9) rfl dX7_messageOfShape_28 ?_
    refine k_roV (As := [.ref (u 0)]) (rest := []) (wc := oX4 T tr (sa (sa (sc K 2 (nI (tG S tl 20).2.2)) 1 (fun i => nI ((tG S tl 20).1 i))) 2 (tG S tl 20).2.1) ++ oX6 T u U) (d := 2) (v := mOf (tG S tl 20).1 ((tG S tl 20).2.1) (nSh ((U 1))) nt 0 0) cx (c_X4_messageOf l G T A tr u (sa (sa (sc K 2 (nI (tG S tl 20).2.2)) 1 (fun i => nI ((tG S tl 20).1 i))) 2 (tG S tl 20).2.1) U nt (tG S tl 20).1 (by first | assumption | rfl | omega) (by omega) rfl (fun e => Nat.le_trans ((tG_ok S tl 20).2 e) (tG_ok S tl 20).1)) (cwV 1 hts gX7_messageOfShape_X4_messageOf rfl rfl rfl (by decide +kernel) ⟨Nat.le_of_ble_eq_true rfl, Nat.le_of_ble_eq_true rfl⟩) (hP.sub (ws' := oX4 T tr (sa (sa (sc K 2 (nI (tG S tl 20).2.2)) 1 (fun i => nI ((tG S tl 20).1 i))) 2 (tG S tl 20).2.1) ++ oX6 T u U) [17, 18, 19, 14, 15, 16] rfl) hK (hE.kept hS.2.1) (va_recv hK hP (ci := 4) (q0 := 17) rfl rfl) rfl hl.1 rfl (Nat.le_of_ble_eq_true rfl) dX7_messageOfShape_31 ⟨Nat.le_of_ble_eq_true rfl, Nat.le_of_ble_eq_true rfl⟩ ?_
    subst hQ
    have hP9 : va_P G vwCl (oX7 w q qz h t gr u tr oc Sw ++ oX3 T q S ++ oX6 T u U ++ oX4 T tr (gTO K S tl nt)) H := (by first | (rw [gTO_1 K S tl nt (by assumption)]; exact hP) | (rw [gTO_2 K S tl nt (by assumption)]; exact hP))
    have hD9 : va_D A (oX7 w q qz h t gr u tr oc Sw ++ oX3 T q S ++ oX6 T u U ++ oX4 T tr (gTO K S tl nt)) := (by first | (rw [gTO_1 K S tl nt (by assumption)]; exact hD) | (rw [gTO_2 K S tl nt (by assumption)]; exact hD))
    exact e_rwi hx hb hr hlocks hS (by first | exact pMS_2 S tl U nt (by assumption) | exact pMS_1 S tl U nt (by assumption)) hP9 hD9 dX7_messageOfShape_34
  · skip
    refine lv_iconst (v := -1) hx hb dX7_messageOfShape_10 (by decide) ?_
    subst hQ
    have hP9 : va_P G vwCl (oX7 w q qz h t gr u tr oc Sw ++ oX3 T q S ++ oX6 T u U ++ oX4 T tr (gTO K S tl nt)) H := (by first | (rw [gTO_1 K S tl nt (by assumption)]; exact hP) | (rw [gTO_2 K S tl nt (by assumption)]; exact hP))
    have hD9 : va_D A (oX7 w q qz h t gr u tr oc Sw ++ oX3 T q S ++ oX6 T u U ++ oX4 T tr (gTO K S tl nt)) := (by first | (rw [gTO_1 K S tl nt (by assumption)]; exact hD) | (rw [gTO_2 K S tl nt (by assumption)]; exact hD))
    exact e_rwi hx hb hr hlocks hS (by first | exact pMS_2 S tl U nt (by assumption) | exact pMS_1 S tl U nt (by assumption)) hP9 hD9 dX7_messageOfShape_11
set_option maxHeartbeats 4000000 in
set_option maxRecDepth 100000 in
theorem c_X7_keyBetween (l : Launch) (G : va_G) (T : Nat → ClassId) (A : Nat → Prop) (w : Nat → Nat) (q : Nat → Nat) (qz : Nat → Nat) (h : Nat → Nat) (t : Nat → Nat) (gr : Nat → Nat) (u : Nat → Nat) (tr : Nat → Nat) (oc : Nat → Nat) (Sw : Nat → Nat → Int32) (S : Nat → Nat → Int32) (U : Nat → Nat → Int32) (mm : Nat) (hm20 : mm < 20) : RO l yX7_keyBetween wsX7_keyBetween 1 G T A (oX7 w q qz h t gr u tr oc Sw ++ oX3 T q S ++ oX6 T u U) [.ref (w 0), .int (nI mm)] (pFM (U 1 0 - S 7 (mm * 8)) (nI 7)) := by
  refine Met.ofW (cc := cX7_keyBetween) (maxL := 2) (ret := (some .int)) (by decide) rfl ?_
  intro p e s m args below meth c s₁ B hml hv
  obtain ⟨ha, hP, hK, hE⟩ := hv
  have hx := B.exec
  have hb := B.bytes
  have hr := B.returns
  have hlocks := B.notSynchronized
  have hts := atoms_spec (ws := wsX7_keyBetween) B.pre
  have hown : s.vm.findClass RX7 = some m.cls := findClass_of_methodNamed B.named
  have cx : CallFix p m c cX7_keyBetween 2 s args wsX7_keyBetween RX7 := ⟨hx, hb, hml, hown, hts⟩
  refine w_entry ha (Nat.le_of_ble_eq_true rfl) (fun ls hl => ?_)
  refine w_q (fun Q0 hQ => ?_)
  have lk43 := hts (.fieldLink RX7 43 "WhistleTunes" "tune" "LWhistleTunes$Tune;") (by decide +kernel)
  have hinX7 : ∀ w ∈ wsX70, w ∈ wsX7_keyBetween := by decide +kernel
  have lk373 := hts (.fieldLink RX7 373 "WhistleTunes$Tune" "notes" "[I") (by decide +kernel)
  have hinX6 : ∀ w ∈ wsX60, w ∈ wsX7_keyBetween := by decide +kernel
  have lk10 := hts (.fieldLink RX7 10 "WhistleTunes" "school" "LWhistleTunes$School;") (by decide +kernel)
  have hl : lv_has ls 2 [(0, .ref (w 0)), (1, .int (nI mm))] := hl
  have hP : va_P G vwCl [(w 0, .inr (7, [.ref (q 0), .ref (qz 0), .ref (h 0), .ref (t 0), .ref (gr 0), .ref (u 0), .ref (tr 0), .ref (oc 0), .int (Sw 0 8)])), (q 0, .inr (3, [.int (S 0 0), .int (S 0 1), .int (S 0 2), .int (S 0 3), .ref (q 5), .ref (q 6), .ref (q 7), .ref (q 8), .ref (q 9), .ref (q 10), .ref (q 11), .ref (q 12), .ref (q 13), .ref (q 14), .ref (q 15), .ref (q 16)])), (q 5, .inl (T 0, 2, .inl (S 5))), (q 6, .inl (T 0, 20, .inl (S 6))), (q 7, .inl (T 0, 160, .inl (S 7))), (q 8, .inl (T 0, 20, .inl (S 8))), (q 9, .inl (T 0, 20, .inl (S 9))), (q 10, .inl (T 0, 20, .inl (S 10))), (q 11, .inl (T 0, 6, .inl (S 11))), (q 12, .inl (T 0, 6, .inl (S 12))), (q 13, .inl (T 0, 6, .inl (S 13))), (q 14, .inl (T 0, 6, .inl (S 14))), (q 15, .inl (T 0, 6, .inl (S 15))), (q 16, .inl (T 0, 2, .inl (S 16))), (u 0, .inr (6, [.ref (u 1), .ref (u 2), .int (U 0 2)])), (u 1, .inl (T 0, 9, .inl (U 1))), (u 2, .inl (T 0, 3, .inl (U 2)))] s.heap := hP
  refine lv_aload_n hx hb dX7_keyBetween_0 rfl (lv_at hl 0 rfl) ?_
  refine va_get (D := G) (ci := 7) (v := .ref (u 0)) (C := RX7) (T := TX7) (N := 9) hx hb hts hinX7 hown hK hP 0 rfl rfl 5 (by decide) lk43 (fun _ h9 => h9) rfl dX7_keyBetween_1 ?_
  refine va_get (D := G) (ci := 6) (v := .ref (u 1)) (C := RX6) (T := TX6) (N := 3) hx hb hts hinX6 hown hK hP 14 rfl rfl 0 (by decide) lk373 (fun _ h9 => h9) rfl dX7_keyBetween_4 ?_
  refine n_iconst hx hb 0 dX7_keyBetween_7 (by decide) ?_
  refine n_iald hx hb hK hP 15 0 rfl rfl 0 (by decide) (by decide) dX7_keyBetween_8 ?_
  refine lv_aload_n hx hb dX7_keyBetween_9 rfl (lv_at hl 0 rfl) ?_
  refine va_get (D := G) (ci := 7) (v := .ref (q 0)) (C := RX7) (T := TX7) (N := 9) hx hb hts hinX7 hown hK hP 0 rfl rfl 0 (by decide) lk10 (fun _ h9 => h9) rfl dX7_keyBetween_10 ?_
  refine lv_iload_n hx hb dX7_keyBetween_13 rfl (lv_at hl 1 rfl) ?_
  refine n_iconst hx hb 0 dX7_keyBetween_14 (by decide) ?_
  refine k_roV (As := [.int (nI mm), .int (nI 0)]) (rest := [.int ((U 1) 0)]) (wc := oX3 T q S) (d := 0) (v := (S 7) (mm * 8)) cx (c_X3_noteAt l G T A q S mm 0 (by omega) (by omega)) (cwV 2 hts gX7_keyBetween_X3_noteAt rfl rfl rfl (by decide +kernel) ⟨Nat.le_of_ble_eq_true rfl, Nat.le_of_ble_eq_true rfl⟩) (hP.sub (ws' := oX3 T q S) [1, 2, 3, 4, 5, 6, 7, 8, 9, 10, 11, 12, 13] rfl) hK hE (va_recv hK hP (ci := 3) (q0 := 1) rfl rfl) rfl hl.1 rfl (Nat.le_of_ble_eq_true rfl) dX7_keyBetween_15 ⟨Nat.le_of_ble_eq_true rfl, Nat.le_of_ble_eq_true rfl⟩ ?_
  refine lv_isub hx hb dX7_keyBetween_18 ?_
  refine lv_bipush (v := nI 7) hx hb dX7_keyBetween_19 (by decide) ?_
  refine k_roS (As := [.int (((U 1) 0) - ((S 7) (mm * 8))), .int (nI 7)]) (rest := []) (wc := []) (d := 0) (v := pFM (((U 1) 0) - ((S 7) (mm * 8))) (nI 7)) cx (c_J9_floorMod_7cf53 l G T A (((U 1) 0) - ((S 7) (mm * 8))) (nI 7) (nI_ne0 (by decide) (by decide))) (va_cwS 2 hts gX7_keyBetween_J9_floorMod_7cf53 rfl rfl rfl (by decide +kernel) ⟨Nat.le_of_ble_eq_true rfl, Nat.le_of_ble_eq_true rfl⟩) (hP.sub (ws' := []) [] rfl) hK hE rfl hl.1 rfl (Nat.le_of_ble_eq_true rfl) dX7_keyBetween_21 ⟨Nat.le_of_ble_eq_true rfl, Nat.le_of_ble_eq_true rfl⟩ ?_
  subst hQ
  exact e_ro hx hb hr hlocks rfl dX7_keyBetween_24
set_option maxHeartbeats 4000000 in
set_option maxRecDepth 100000 in
theorem c_X7_count_3 (l : Launch) (G : va_G) (T : Nat → ClassId) (sz : Nat) (w : Nat → Nat) (q : Nat → Nat) (qz : Nat → Nat) (h : Nat → Nat) (t : Nat → Nat) (gr : Nat → Nat) (u : Nat → Nat) (tr : Nat → Nat) (oc : Nat → Nat) (Sw : Nat → Nat → Int32) (S : Nat → Nat → Int32) (K : Nat → Nat → Int32) (tl : Nat → Nat) (htl : ∀ i : Nat, i < 20 → S 6 i = nI (tl i)) (htl8 : ∀ i : Nat, i < 20 → tl i ≤ 8) : RWi l yX7_count wsX7_count 5 0 0 G T sz (oX7 w q qz h t gr u tr oc Sw ++ oX3 T q S ++ oX4 T tr K) [.ref (w 0), .int (nI 3)] (nI (tG S tl 20).2.2) (oX7 w q qz h t gr u tr oc Sw ++ oX3 T q S ++ oX4 T tr (gTr K S tl)) := by
  refine Met.ofW (cc := cX7_count) (maxL := 2) (ret := (some .int)) (by decide) rfl ?_
  intro p e s m args below meth c s₁ B hml hv
  obtain ⟨ha, hsz, hP, hK, hD0, hE0⟩ := hv
  have hx := B.exec
  have hb := B.bytes
  have hr := B.returns
  have hlocks := B.notSynchronized
  have hts := atoms_spec (ws := wsX7_count) B.pre
  have hown : s.vm.findClass RX7 = some m.cls := findClass_of_methodNamed B.named
  have cx : CallFix p m c cX7_count 2 s args wsX7_count RX7 := ⟨hx, hb, hml, hown, hts⟩
  subst hsz
  have hD := hD0.self (sz := s.heap.size)
  generalize hAe : va_A (oX7 w q qz h t gr u tr oc Sw ++ oX3 T q S ++ oX4 T tr K) s.heap.size = A at hD hE0 ⊢
  have hE : gE A s s.heap := hE0
  have hA : ∀ q : Nat, s.heap.size ≤ q → A q := fun q h => by rw [← hAe]; exact Or.inr h
  have hS : va_S A s.heap s.heap [] := va_S.rf
  refine w_entry ha (Nat.le_of_ble_eq_true rfl) (fun ls hl => ?_)
  refine w_q (fun Q0 hQ => ?_)
  have lk50 := hts (.fieldLink RX7 50 "WhistleTunes" "tree" "LWhistleTunes$ShapeTree;") (by decide +kernel)
  have hinX7 : ∀ w ∈ wsX70, w ∈ wsX7_count := by decide +kernel
  have lk10 := hts (.fieldLink RX7 10 "WhistleTunes" "school" "LWhistleTunes$School;") (by decide +kernel)
  have lk257 := hts (.fieldLink RX7 257 "WhistleTunes$ShapeTree" "nodes" "I") (by decide +kernel)
  have hinX4 : ∀ w ∈ wsX40, w ∈ wsX7_count := by decide +kernel
  have hl : lv_has ls 2 [(0, .ref (w 0)), (1, .int (nI 3))] := hl
  have hP : va_P G vwCl [(w 0, .inr (7, [.ref (q 0), .ref (qz 0), .ref (h 0), .ref (t 0), .ref (gr 0), .ref (u 0), .ref (tr 0), .ref (oc 0), .int (Sw 0 8)])), (q 0, .inr (3, [.int (S 0 0), .int (S 0 1), .int (S 0 2), .int (S 0 3), .ref (q 5), .ref (q 6), .ref (q 7), .ref (q 8), .ref (q 9), .ref (q 10), .ref (q 11), .ref (q 12), .ref (q 13), .ref (q 14), .ref (q 15), .ref (q 16)])), (q 5, .inl (T 0, 2, .inl (S 5))), (q 6, .inl (T 0, 20, .inl (S 6))), (q 7, .inl (T 0, 160, .inl (S 7))), (q 8, .inl (T 0, 20, .inl (S 8))), (q 9, .inl (T 0, 20, .inl (S 9))), (q 10, .inl (T 0, 20, .inl (S 10))), (q 11, .inl (T 0, 6, .inl (S 11))), (q 12, .inl (T 0, 6, .inl (S 12))), (q 13, .inl (T 0, 6, .inl (S 13))), (q 14, .inl (T 0, 6, .inl (S 14))), (q 15, .inl (T 0, 6, .inl (S 15))), (q 16, .inl (T 0, 2, .inl (S 16))), (tr 0, .inr (4, [.ref (tr 1), .ref (tr 2), .int (K 0 2)])), (tr 1, .inl (T 0, 1127, .inl (K 1))), (tr 2, .inl (T 0, 161, .inl (K 2)))] s.heap := hP
  have hD : va_D A [(w 0, .inr (7, [.ref (q 0), .ref (qz 0), .ref (h 0), .ref (t 0), .ref (gr 0), .ref (u 0), .ref (tr 0), .ref (oc 0), .int (Sw 0 8)])), (q 0, .inr (3, [.int (S 0 0), .int (S 0 1), .int (S 0 2), .int (S 0 3), .ref (q 5), .ref (q 6), .ref (q 7), .ref (q 8), .ref (q 9), .ref (q 10), .ref (q 11), .ref (q 12), .ref (q 13), .ref (q 14), .ref (q 15), .ref (q 16)])), (q 5, .inl (T 0, 2, .inl (S 5))), (q 6, .inl (T 0, 20, .inl (S 6))), (q 7, .inl (T 0, 160, .inl (S 7))), (q 8, .inl (T 0, 20, .inl (S 8))), (q 9, .inl (T 0, 20, .inl (S 9))), (q 10, .inl (T 0, 20, .inl (S 10))), (q 11, .inl (T 0, 6, .inl (S 11))), (q 12, .inl (T 0, 6, .inl (S 12))), (q 13, .inl (T 0, 6, .inl (S 13))), (q 14, .inl (T 0, 6, .inl (S 14))), (q 15, .inl (T 0, 6, .inl (S 15))), (q 16, .inl (T 0, 2, .inl (S 16))), (tr 0, .inr (4, [.ref (tr 1), .ref (tr 2), .int (K 0 2)])), (tr 1, .inl (T 0, 1127, .inl (K 1))), (tr 2, .inl (T 0, 161, .inl (K 2)))] := hD
  skip
  refine w_h (fun H locs hHe hLe => ?_)
  have hP : va_P G vwCl [(w 0, .inr (7, [.ref (q 0), .ref (qz 0), .ref (h 0), .ref (t 0), .ref (gr 0), .ref (u 0), .ref (tr 0), .ref (oc 0), .int (Sw 0 8)])), (q 0, .inr (3, [.int (S 0 0), .int (S 0 1), .int (S 0 2), .int (S 0 3), .ref (q 5), .ref (q 6), .ref (q 7), .ref (q 8), .ref (q 9), .ref (q 10), .ref (q 11), .ref (q 12), .ref (q 13), .ref (q 14), .ref (q 15), .ref (q 16)])), (q 5, .inl (T 0, 2, .inl (S 5))), (q 6, .inl (T 0, 20, .inl (S 6))), (q 7, .inl (T 0, 160, .inl (S 7))), (q 8, .inl (T 0, 20, .inl (S 8))), (q 9, .inl (T 0, 20, .inl (S 9))), (q 10, .inl (T 0, 20, .inl (S 10))), (q 11, .inl (T 0, 6, .inl (S 11))), (q 12, .inl (T 0, 6, .inl (S 12))), (q 13, .inl (T 0, 6, .inl (S 13))), (q 14, .inl (T 0, 6, .inl (S 14))), (q 15, .inl (T 0, 6, .inl (S 15))), (q 16, .inl (T 0, 2, .inl (S 16))), (tr 0, .inr (4, [.ref (tr 1), .ref (tr 2), .int (K 0 2)])), (tr 1, .inl (T 0, 1127, .inl (K 1))), (tr 2, .inl (T 0, 161, .inl (K 2)))] H := by rw [hHe]; exact hP
  have hS : va_S A s.heap H locs := by rw [hHe, hLe]; exact hS
  refine lv_iload_n hx hb dX7_count_0 rfl (lv_at hl 1 rfl) ?_
  refine n_tab (a := 3) (off := 95) (tgt := 96) hx hb (by decide) dX7_count_1 (by decide) (by decide) rfl (by decide) ?_
  refine lv_aload_n hx hb dX7_count_96 rfl (lv_at hl 0 rfl) ?_
  refine va_get (D := G) (ci := 7) (v := .ref (tr 0)) (C := RX7) (T := TX7) (N := 9) hx hb hts hinX7 hown hK hP 0 rfl rfl 6 (by decide) lk50 (fun _ h9 => h9) rfl dX7_count_97 ?_
  refine lv_aload_n hx hb dX7_count_100 rfl (lv_at hl 0 rfl) ?_
  refine va_get (D := G) (ci := 7) (v := .ref (q 0)) (C := RX7) (T := TX7) (N := 9) hx hb hts hinX7 hown hK hP 0 rfl rfl 0 (by decide) lk10 (fun _ h9 => h9) rfl dX7_count_101 ?_
  refine k_rvV (As := [.ref (q 0)]) (rest := []) (wc := oX4 T tr K ++ oX3 T q S) (wr := oX7 w q qz h t gr u tr oc Sw) (w1 := oX4 T tr (sa (sa (sc K 2 (nI (tG S tl 20).2.2)) 1 (fun i => nI ((tG S tl 20).1 i))) 2 (tG S tl 20).2.1) ++ oX3 T q S) (d := 4) (mc := 0) (ms := 0) (isC := [14, 15, 16, 1, 2, 3, 4, 5, 6, 7, 8, 9, 10, 11, 12, 13]) (isR := [0]) cx (c_X4_growFrom l G T H.size tr q K S tl htl htl8) (cwV 1 hts gX7_count_X4_growFrom rfl rfl rfl (by decide +kernel) ⟨Nat.le_of_ble_eq_true rfl, Nat.le_of_ble_eq_true rfl⟩) ⟨hP, hD, hS, hA, hE, hK, rfl, rfl, rfl, rfl, by decide⟩ (va_recv hK hP (ci := 4) (q0 := 14) rfl rfl) rfl hl.1 rfl (Nat.le_of_ble_eq_true rfl) dX7_count_104 ⟨Nat.le_of_ble_eq_true rfl, Nat.le_of_ble_eq_true rfl⟩ (fun H locs hP hD hS hz => ?_)
  have hP : va_P G vwCl [(w 0, .inr (7, [.ref (q 0), .ref (qz 0), .ref (h 0), .ref (t 0), .ref (gr 0), .ref (u 0), .ref (tr 0), .ref (oc 0), .int (Sw 0 8)])), (q 0, .inr (3, [.int (S 0 0), .int (S 0 1), .int (S 0 2), .int (S 0 3), .ref (q 5), .ref (q 6), .ref (q 7), .ref (q 8), .ref (q 9), .ref (q 10), .ref (q 11), .ref (q 12), .ref (q 13), .ref (q 14), .ref (q 15), .ref (q 16)])), (q 5, .inl (T 0, 2, .inl (S 5))), (q 6, .inl (T 0, 20, .inl (S 6))), (q 7, .inl (T 0, 160, .inl (S 7))), (q 8, .inl (T 0, 20, .inl (S 8))), (q 9, .inl (T 0, 20, .inl (S 9))), (q 10, .inl (T 0, 20, .inl (S 10))), (q 11, .inl (T 0, 6, .inl (S 11))), (q 12, .inl (T 0, 6, .inl (S 12))), (q 13, .inl (T 0, 6, .inl (S 13))), (q 14, .inl (T 0, 6, .inl (S 14))), (q 15, .inl (T 0, 6, .inl (S 15))), (q 16, .inl (T 0, 2, .inl (S 16))), (tr 0, .inr (4, [.ref (tr 1), .ref (tr 2), .int (nI (tG S tl 20).2.2)])), (tr 1, .inl (T 0, 1127, .inl (fun i => nI ((tG S tl 20).1 i)))), (tr 2, .inl (T 0, 161, .inl (tG S tl 20).2.1))] H := kN.sub (is := [0, 4, 5, 6, 7, 8, 9, 10, 11, 12, 13, 14, 15, 16, 1, 2, 3]) hP rfl
  have hD : va_D A [(w 0, .inr (7, [.ref (q 0), .ref (qz 0), .ref (h 0), .ref (t 0), .ref (gr 0), .ref (u 0), .ref (tr 0), .ref (oc 0), .int (Sw 0 8)])), (q 0, .inr (3, [.int (S 0 0), .int (S 0 1), .int (S 0 2), .int (S 0 3), .ref (q 5), .ref (q 6), .ref (q 7), .ref (q 8), .ref (q 9), .ref (q 10), .ref (q 11), .ref (q 12), .ref (q 13), .ref (q 14), .ref (q 15), .ref (q 16)])), (q 5, .inl (T 0, 2, .inl (S 5))), (q 6, .inl (T 0, 20, .inl (S 6))), (q 7, .inl (T 0, 160, .inl (S 7))), (q 8, .inl (T 0, 20, .inl (S 8))), (q 9, .inl (T 0, 20, .inl (S 9))), (q 10, .inl (T 0, 20, .inl (S 10))), (q 11, .inl (T 0, 6, .inl (S 11))), (q 12, .inl (T 0, 6, .inl (S 12))), (q 13, .inl (T 0, 6, .inl (S 13))), (q 14, .inl (T 0, 6, .inl (S 14))), (q 15, .inl (T 0, 6, .inl (S 15))), (q 16, .inl (T 0, 2, .inl (S 16))), (tr 0, .inr (4, [.ref (tr 1), .ref (tr 2), .int (nI (tG S tl 20).2.2)])), (tr 1, .inl (T 0, 1127, .inl (fun i => nI ((tG S tl 20).1 i)))), (tr 2, .inl (T 0, 161, .inl (tG S tl 20).2.1))] := hD.sub [0, 4, 5, 6, 7, 8, 9, 10, 11, 12, 13, 14, 15, 16, 1, 2, 3] rfl rfl
  refine lv_aload_n hx hb dX7_count_107 rfl (lv_at hl 0 rfl) ?_
  refine va_get (D := G) (ci := 7) (v := .ref (tr 0)) (C := RX7) (T := TX7) (N := 9) hx hb hts hinX7 hown hK hP 0 rfl rfl 6 (by decide) lk50 (fun _ h9 => h9) rfl dX7_count_108 ?_
  refine va_get (D := G) (ci := 4) (v := .int (nI (tG S tl 20).2.2)) (C := RX4) (T := TX4) (N := 3) hx hb hts hinX4 hown hK hP 14 rfl rfl 2 (by decide) lk257 (fun _ h9 => h9) rfl dX7_count_111 ?_
  subst hQ
  have hP9 : va_P G vwCl (oX7 w q qz h t gr u tr oc Sw ++ oX3 T q S ++ oX4 T tr (gTr K S tl)) H := hP
  have hD9 : va_D A (oX7 w q qz h t gr u tr oc Sw ++ oX3 T q S ++ oX4 T tr (gTr K S tl)) := hD
  exact e_rwi hx hb hr hlocks hS rfl hP9 hD9 dX7_count_114
