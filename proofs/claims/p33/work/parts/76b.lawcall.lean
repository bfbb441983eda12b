/-! the law's call of WhistleTunes, by kind (printed by wip/p33/s63.py) -/

set_option maxHeartbeats 4000000 in
set_option maxRecDepth 100000 in
theorem c_L_call_0 (l : Launch) (G : va_G) (T : Nat → ClassId) (sz : Nat) (w : Nat → Nat) (q : Nat → Nat) (qz : Nat → Nat) (h : Nat → Nat) (qs : Nat → Nat → Nat) (t : Nat → Nat) (gr : Nat → Nat) (u : Nat → Nat) (tr : Nat → Nat) (oc : Nat → Nat) (Sw : Nat → Nat → Int32) (S : Nat → Nat → Int32) (Z : Nat → Nat → Int32) (Sh : Nat → Nat → Int32) (Hs : Nat → Nat → Nat → Int32) (X : Nat → Nat → Int32) (Gg : Nat → Nat → Int32) (U : Nat → Nat → Int32) (K : Nat → Nat → Int32) (O : Nat → Nat → Int32) (n : Nat) (cd : Nat → Nat) (tl : Nat → Nat) (o : Nat) (nh : Nat) (mm : Nat) (ee : Nat) (hlen : X 0 1 = nI n) (hn60 : n ≤ 60) (hcd : ∀ i : Nat, i < n → X 1 i = nI (cd i)) (hc127 : ∀ i : Nat, i < n → cd i < 127) (htl : ∀ i : Nat, i < 20 → S 6 i = nI (tl i)) (htl8 : ∀ i : Nat, i < 20 → tl i ≤ 8) (ho : Sh 0 1 = nI o) (hnh : Sh 0 2 = nI nh) (ho6 : o < 6) (hn6 : nh ≤ 6) (hm20 : mm < 20) (hbT : bT cd n = true) (hra : pRA S tl (rTu U cd n) (ntT cd n U) mm = nI 0) : RWi l yL_call wsL_call 15 0 0 G T sz (oC T (w, q, qz, h, qs, t, gr, u, tr, oc) (Sw, S, Z, Sh, Hs, X, Gg, U, K, O)) [.ref (w 0), .int (nI 0), .int (nI mm), .int (nI ee)] (nI (ntT cd n U)) (oC T (w, q, qz, h, qs, t, gr, u, tr, oc) (Sw, sa (sa S 6 (upd (S 6) mm (nI (ntT cd n U)))) 7 (va_cpy (rTu U cd n 1) (S 7) 0 (mm * 8) (ntT cd n U)), Z, sc (sc Sh 1 (nI (hPo o nh))) 2 (nI (hPn nh)), updS Hs (hPi o nh) S, sc X 1 (nI 0), gGr Gg cd n 4 false, rTu U cd n, gTO K S tl (ntT cd n U), O)) := by
  refine Met.ofW (cc := cL_call) (maxL := 4) (ret := (some .int)) (by decide) rfl ?_
  intro p e s m args below meth c s₁ B hml hv
  obtain ⟨ha, hsz, hP, hK, hD0, hE0⟩ := hv
  have hx := B.exec
  have hb := B.bytes
  have hr := B.returns
  have hlocks := B.notSynchronized
  have hts := atoms_spec (ws := wsL_call) B.pre
  have hown : s.vm.findClass RL = some m.cls := findClass_of_methodNamed B.named
  have cx : CallFix p m c cL_call 4 s args wsL_call RL := ⟨hx, hb, hml, hown, hts⟩
  subst hsz
  have hD := hD0.self (sz := s.heap.size)
  generalize hAe : va_A (oC T (w, q, qz, h, qs, t, gr, u, tr, oc) (Sw, S, Z, Sh, Hs, X, Gg, U, K, O)) s.heap.size = A at hD hE0 ⊢
  have hE : gE A s s.heap := hE0
  have hA : ∀ q : Nat, s.heap.size ≤ q → A q := fun q h => by rw [← hAe]; exact Or.inr h
  have hS : va_S A s.heap s.heap [] := va_S.rf
  refine w_entry ha (Nat.le_of_ble_eq_true rfl) (fun ls hl => ?_)
  refine w_q (fun Q0 hQ => ?_)
  have hl : lv_has ls 4 [(0, .ref (w 0)), (1, .int (nI 0)), (2, .int (nI mm)), (3, .int (nI ee))] := hl
  have hP : va_P G vwCl (oC T (w, q, qz, h, qs, t, gr, u, tr, oc) (Sw, S, Z, Sh, Hs, X, Gg, U, K, O)) s.heap := hP
  have hD : va_D A (oC T (w, q, qz, h, qs, t, gr, u, tr, oc) (Sw, S, Z, Sh, Hs, X, Gg, U, K, O)) := hD
  skip
  refine w_h (fun H locs hHe hLe => ?_)
  have hP : va_P G vwCl (oC T (w, q, qz, h, qs, t, gr, u, tr, oc) (Sw, S, Z, Sh, Hs, X, Gg, U, K, O)) H := by rw [hHe]; exact hP
  have hS : va_S A s.heap H locs := by rw [hHe, hLe]; exact hS
  refine lv_iload_n hx hb dL_call_0 rfl (lv_at hl 1 rfl) ?_
  refine n_tab (a := 0) (off := 47) (tgt := 48) hx hb (by decide) dL_call_1 (by decide) (by decide) rfl (by decide) ?_
  refine lv_aload_n hx hb dL_call_48 rfl (lv_at hl 0 rfl) ?_
  refine lv_iload_n hx hb dL_call_49 rfl (lv_at hl 2 rfl) ?_
  refine k_lwS (As := [.ref (w 0), .int (nI mm)]) (rest := []) (wc := (oC T (w, q, qz, h, qs, t, gr, u, tr, oc) (Sw, S, Z, Sh, Hs, X, Gg, U, K, O))) (wr := []) (w1 := (oC T (w, q, qz, h, qs, t, gr, u, tr, oc) (Sw, sa (sa S 6 (upd ((S 6)) mm (nI (ntT cd n U)))) 7 (va_cpy (rTu U cd n 1) ((S 7)) 0 (mm * 8) (ntT cd n U)), Z, sc (sc Sh 1 (nI (hPo o nh))) 2 (nI (hPn nh)), updS Hs (hPi o nh) S, sc X 1 (nI 0), gGr Gg cd n 4 false, rTu U cd n, gTO K S tl (ntT cd n U), O))) (d := 14) (mc := 0) (ms := 0) (v := nI (ntT cd n U)) cx (c_L_teach l G T H.size w q qz h qs t gr u tr oc Sw S Z Sh Hs X Gg U K O n cd tl o nh mm (by first | assumption | rfl | omega) (by omega) (by first | assumption | rfl | omega) (by omega) (by first | assumption | rfl | omega) (by omega) (by first | assumption | rfl | omega) (by first | assumption | rfl | omega) (by omega) (by omega) (by omega) (by first | assumption | rfl | omega) (by first | assumption | rfl | omega)) (vx_cwSW 2 hts gL_call_L_teach rfl rfl rfl (by decide +kernel) ⟨Nat.le_of_ble_eq_true rfl, Nat.le_of_ble_eq_true rfl⟩) (kN_full hP hD hS hA hE hK) rfl hl.1 rfl (Nat.le_of_ble_eq_true rfl) dL_call_50 ⟨Nat.le_of_ble_eq_true rfl, Nat.le_of_ble_eq_true rfl⟩ (fun H locs hP hD hS hz => ?_)
  have hP : va_P G vwCl (oC T (w, q, qz, h, qs, t, gr, u, tr, oc) (Sw, sa (sa S 6 (upd ((S 6)) mm (nI (ntT cd n U)))) 7 (va_cpy (rTu U cd n 1) ((S 7)) 0 (mm * 8) (ntT cd n U)), Z, sc (sc Sh 1 (nI (hPo o nh))) 2 (nI (hPn nh)), updS Hs (hPi o nh) S, sc X 1 (nI 0), gGr Gg cd n 4 false, rTu U cd n, gTO K S tl (ntT cd n U), O)) H := hP
  have hD : va_D A (oC T (w, q, qz, h, qs, t, gr, u, tr, oc) (Sw, sa (sa S 6 (upd ((S 6)) mm (nI (ntT cd n U)))) 7 (va_cpy (rTu U cd n 1) ((S 7)) 0 (mm * 8) (ntT cd n U)), Z, sc (sc Sh 1 (nI (hPo o nh))) 2 (nI (hPn nh)), updS Hs (hPi o nh) S, sc X 1 (nI 0), gGr Gg cd n 4 false, rTu U cd n, gTO K S tl (ntT cd n U), O)) := hD
  subst hQ
  have hP9 : va_P G vwCl (oC T (w, q, qz, h, qs, t, gr, u, tr, oc) (Sw, sa (sa S 6 (upd (S 6) mm (nI (ntT cd n U)))) 7 (va_cpy (rTu U cd n 1) (S 7) 0 (mm * 8) (ntT cd n U)), Z, sc (sc Sh 1 (nI (hPo o nh))) 2 (nI (hPn nh)), updS Hs (hPi o nh) S, sc X 1 (nI 0), gGr Gg cd n 4 false, rTu U cd n, gTO K S tl (ntT cd n U), O)) H := hP
  have hD9 : va_D A (oC T (w, q, qz, h, qs, t, gr, u, tr, oc) (Sw, sa (sa S 6 (upd (S 6) mm (nI (ntT cd n U)))) 7 (va_cpy (rTu U cd n 1) (S 7) 0 (mm * 8) (ntT cd n U)), Z, sc (sc Sh 1 (nI (hPo o nh))) 2 (nI (hPn nh)), updS Hs (hPi o nh) S, sc X 1 (nI 0), gGr Gg cd n 4 false, rTu U cd n, gTO K S tl (ntT cd n U), O)) := hD
  exact e_rwi hx hb hr hlocks hS rfl hP9 hD9 dL_call_53
set_option maxHeartbeats 4000000 in
set_option maxRecDepth 100000 in
theorem c_L_call_1 (l : Launch) (G : va_G) (T : Nat → ClassId) (sz : Nat) (w : Nat → Nat) (q : Nat → Nat) (qz : Nat → Nat) (h : Nat → Nat) (qs : Nat → Nat → Nat) (t : Nat → Nat) (gr : Nat → Nat) (u : Nat → Nat) (tr : Nat → Nat) (oc : Nat → Nat) (Sw : Nat → Nat → Int32) (S : Nat → Nat → Int32) (Z : Nat → Nat → Int32) (Sh : Nat → Nat → Int32) (Hs : Nat → Nat → Nat → Int32) (X : Nat → Nat → Int32) (Gg : Nat → Nat → Int32) (U : Nat → Nat → Int32) (K : Nat → Nat → Int32) (O : Nat → Nat → Int32) (o : Nat) (n : Nat) (rr : Nat) (mm : Nat) (ho : Sh 0 1 = nI o) (hn : Sh 0 2 = nI n) (ho6 : o < 6) (hn6 : n ≤ 6) (hr6 : rr < 6) (hm20 : mm < 20) (hwhy : pWhy S rr mm = 0) : RWi l yL_call wsL_call 15 0 0 G T sz (oC T (w, q, qz, h, qs, t, gr, u, tr, oc) (Sw, S, Z, Sh, Hs, X, Gg, U, K, O)) [.ref (w 0), .int (nI 1), .int (nI rr), .int (nI mm)] (pBC (pUn S rr)) (oC T (w, q, qz, h, qs, t, gr, u, tr, oc) (Sw, pRem S (pFor O S rr mm) rr mm, Z, sc (sc Sh 1 (nI (hPo o n))) 2 (nI (hPn n)), updS Hs (hPi o n) S, X, Gg, U, K, pFor O S rr mm)) := by
  refine Met.ofW (cc := cL_call) (maxL := 4) (ret := (some .int)) (by decide) rfl ?_
  intro p e s m args below meth c s₁ B hml hv
  obtain ⟨ha, hsz, hP, hK, hD0, hE0⟩ := hv
  have hx := B.exec
  have hb := B.bytes
  have hr := B.returns
  have hlocks := B.notSynchronized
  have hts := atoms_spec (ws := wsL_call) B.pre
  have hown : s.vm.findClass RL = some m.cls := findClass_of_methodNamed B.named
  have cx : CallFix p m c cL_call 4 s args wsL_call RL := ⟨hx, hb, hml, hown, hts⟩
  subst hsz
  have hD := hD0.self (sz := s.heap.size)
  generalize hAe : va_A (oC T (w, q, qz, h, qs, t, gr, u, tr, oc) (Sw, S, Z, Sh, Hs, X, Gg, U, K, O)) s.heap.size = A at hD hE0 ⊢
  have hE : gE A s s.heap := hE0
  have hA : ∀ q : Nat, s.heap.size ≤ q → A q := fun q h => by rw [← hAe]; exact Or.inr h
  have hS : va_S A s.heap s.heap [] := va_S.rf
  refine w_entry ha (Nat.le_of_ble_eq_true rfl) (fun ls hl => ?_)
  refine w_q (fun Q0 hQ => ?_)
  have hl : lv_has ls 4 [(0, .ref (w 0)), (1, .int (nI 1)), (2, .int (nI rr)), (3, .int (nI mm))] := hl
  have hP : va_P G vwCl (oC T (w, q, qz, h, qs, t, gr, u, tr, oc) (Sw, S, Z, Sh, Hs, X, Gg, U, K, O)) s.heap := hP
  have hD : va_D A (oC T (w, q, qz, h, qs, t, gr, u, tr, oc) (Sw, S, Z, Sh, Hs, X, Gg, U, K, O)) := hD
  skip
  refine w_h (fun H locs hHe hLe => ?_)
  have hP : va_P G vwCl (oC T (w, q, qz, h, qs, t, gr, u, tr, oc) (Sw, S, Z, Sh, Hs, X, Gg, U, K, O)) H := by rw [hHe]; exact hP
  have hS : va_S A s.heap H locs := by rw [hHe, hLe]; exact hS
  refine lv_iload_n hx hb dL_call_0 rfl (lv_at hl 1 rfl) ?_
  refine n_tab (a := 1) (off := 53) (tgt := 54) hx hb (by decide) dL_call_1 (by decide) (by decide) rfl (by decide) ?_
  refine lv_aload_n hx hb dL_call_54 rfl (lv_at hl 0 rfl) ?_
  refine lv_iload_n hx hb dL_call_55 rfl (lv_at hl 2 rfl) ?_
  refine lv_iload_n hx hb dL_call_56 rfl (lv_at hl 3 rfl) ?_
  refine k_lwS (As := [.ref (w 0), .int (nI rr), .int (nI mm)]) (rest := []) (wc := (oC T (w, q, qz, h, qs, t, gr, u, tr, oc) (Sw, S, Z, Sh, Hs, X, Gg, U, K, O))) (wr := []) (w1 := (oC T (w, q, qz, h, qs, t, gr, u, tr, oc) (Sw, pRem S (pFor O S rr mm) rr mm, Z, sc (sc Sh 1 (nI (hPo o n))) 2 (nI (hPn n)), updS Hs (hPi o n) S, X, Gg, U, K, pFor O S rr mm))) (d := 7) (mc := 0) (ms := 0) (v := pBC (pUn S rr)) cx (c_L_whistle l G T H.size w q qz h qs t gr u tr oc Sw S Z Sh Hs X Gg U K O o n rr mm (by first | assumption | rfl | omega) (by first | assumption | rfl | omega) (by omega) (by omega) (by omega) (by omega) (by first | assumption | rfl | omega)) (vx_cwSW 3 hts gL_call_L_whistle rfl rfl rfl (by decide +kernel) ⟨Nat.le_of_ble_eq_true rfl, Nat.le_of_ble_eq_true rfl⟩) (kN_full hP hD hS hA hE hK) rfl hl.1 rfl (Nat.le_of_ble_eq_true rfl) dL_call_57 ⟨Nat.le_of_ble_eq_true rfl, Nat.le_of_ble_eq_true rfl⟩ (fun H locs hP hD hS hz => ?_)
  have hP : va_P G vwCl (oC T (w, q, qz, h, qs, t, gr, u, tr, oc) (Sw, pRem S (pFor O S rr mm) rr mm, Z, sc (sc Sh 1 (nI (hPo o n))) 2 (nI (hPn n)), updS Hs (hPi o n) S, X, Gg, U, K, pFor O S rr mm)) H := hP
  have hD : va_D A (oC T (w, q, qz, h, qs, t, gr, u, tr, oc) (Sw, pRem S (pFor O S rr mm) rr mm, Z, sc (sc Sh 1 (nI (hPo o n))) 2 (nI (hPn n)), updS Hs (hPi o n) S, X, Gg, U, K, pFor O S rr mm)) := hD
  subst hQ
  have hP9 : va_P G vwCl (oC T (w, q, qz, h, qs, t, gr, u, tr, oc) (Sw, pRem S (pFor O S rr mm) rr mm, Z, sc (sc Sh 1 (nI (hPo o n))) 2 (nI (hPn n)), updS Hs (hPi o n) S, X, Gg, U, K, pFor O S rr mm)) H := hP
  have hD9 : va_D A (oC T (w, q, qz, h, qs, t, gr, u, tr, oc) (Sw, pRem S (pFor O S rr mm) rr mm, Z, sc (sc Sh 1 (nI (hPo o n))) 2 (nI (hPn n)), updS Hs (hPi o n) S, X, Gg, U, K, pFor O S rr mm)) := hD
  exact e_rwi hx hb hr hlocks hS rfl hP9 hD9 dL_call_60
set_option maxHeartbeats 4000000 in
set_option maxRecDepth 100000 in
theorem c_L_call_2 (l : Launch) (G : va_G) (T : Nat → ClassId) (sz : Nat) (w : Nat → Nat) (q : Nat → Nat) (qz : Nat → Nat) (h : Nat → Nat) (qs : Nat → Nat → Nat) (t : Nat → Nat) (gr : Nat → Nat) (u : Nat → Nat) (tr : Nat → Nat) (oc : Nat → Nat) (Sw : Nat → Nat → Int32) (S : Nat → Nat → Int32) (Z : Nat → Nat → Int32) (Sh : Nat → Nat → Int32) (Hs : Nat → Nat → Nat → Int32) (X : Nat → Nat → Int32) (Gg : Nat → Nat → Int32) (U : Nat → Nat → Int32) (K : Nat → Nat → Int32) (O : Nat → Nat → Int32) (o : Nat) (n : Nat) (rr : Nat) (ee : Nat) (ho : Sh 0 1 = nI o) (hn : Sh 0 2 = nI n) (ho6 : o < 6) (hn6 : n ≤ 6) (hr6 : rr < 6) : RWi l yL_call wsL_call 15 0 0 G T sz (oC T (w, q, qz, h, qs, t, gr, u, tr, oc) (Sw, S, Z, Sh, Hs, X, Gg, U, K, O)) [.ref (w 0), .int (nI 2), .int (nI rr), .int (nI ee)] (S 11 rr) (oC T (w, q, qz, h, qs, t, gr, u, tr, oc) (Sw, sa S 11 (upd (S 11) rr (S 0 1)), Z, sc (sc Sh 1 (nI (hPo o n))) 2 (nI (hPn n)), updS Hs (hPi o n) S, X, Gg, U, K, O)) := by
  refine Met.ofW (cc := cL_call) (maxL := 4) (ret := (some .int)) (by decide) rfl ?_
  intro p e s m args below meth c s₁ B hml hv
  obtain ⟨ha, hsz, hP, hK, hD0, hE0⟩ := hv
  have hx := B.exec
  have hb := B.bytes
  have hr := B.returns
  have hlocks := B.notSynchronized
  have hts := atoms_spec (ws := wsL_call) B.pre
  have hown : s.vm.findClass RL = some m.cls := findClass_of_methodNamed B.named
  have cx : CallFix p m c cL_call 4 s args wsL_call RL := ⟨hx, hb, hml, hown, hts⟩
  subst hsz
  have hD := hD0.self (sz := s.heap.size)
  generalize hAe : va_A (oC T (w, q, qz, h, qs, t, gr, u, tr, oc) (Sw, S, Z, Sh, Hs, X, Gg, U, K, O)) s.heap.size = A at hD hE0 ⊢
  have hE : gE A s s.heap := hE0
  have hA : ∀ q : Nat, s.heap.size ≤ q → A q := fun q h => by rw [← hAe]; exact Or.inr h
  have hS : va_S A s.heap s.heap [] := va_S.rf
  refine w_entry ha (Nat.le_of_ble_eq_true rfl) (fun ls hl => ?_)
  refine w_q (fun Q0 hQ => ?_)
  have hl : lv_has ls 4 [(0, .ref (w 0)), (1, .int (nI 2)), (2, .int (nI rr)), (3, .int (nI ee))] := hl
  have hP : va_P G vwCl (oC T (w, q, qz, h, qs, t, gr, u, tr, oc) (Sw, S, Z, Sh, Hs, X, Gg, U, K, O)) s.heap := hP
  have hD : va_D A (oC T (w, q, qz, h, qs, t, gr, u, tr, oc) (Sw, S, Z, Sh, Hs, X, Gg, U, K, O)) := hD
  skip
  refine w_h (fun H locs hHe hLe => ?_)
  have hP : va_P G vwCl (oC T (w, q, qz, h, qs, t, gr, u, tr, oc) (Sw, S, Z, Sh, Hs, X, Gg, U, K, O)) H := by rw [hHe]; exact hP
  have hS : va_S A s.heap H locs := by rw [hHe, hLe]; exact hS
  refine lv_iload_n hx hb dL_call_0 rfl (lv_at hl 1 rfl) ?_
  refine n_tab (a := 2) (off := 60) (tgt := 61) hx hb (by decide) dL_call_1 (by decide) (by decide) rfl (by decide) ?_
  refine lv_aload_n hx hb dL_call_61 rfl (lv_at hl 0 rfl) ?_
  refine lv_iload_n hx hb dL_call_62 rfl (lv_at hl 2 rfl) ?_
  refine k_lwS (As := [.ref (w 0), .int (nI rr)]) (rest := []) (wc := (oC T (w, q, qz, h, qs, t, gr, u, tr, oc) (Sw, S, Z, Sh, Hs, X, Gg, U, K, O))) (wr := []) (w1 := (oC T (w, q, qz, h, qs, t, gr, u, tr, oc) (Sw, sa S 11 (upd ((S 11)) rr ((S 0 1))), Z, sc (sc Sh 1 (nI (hPo o n))) 2 (nI (hPn n)), updS Hs (hPi o n) S, X, Gg, U, K, O))) (d := 4) (mc := 0) (ms := 0) (v := (S 11) rr) cx (c_L_tell l G T H.size w q qz h qs t gr u tr oc Sw S Z Sh Hs X Gg U K O o n rr (by first | assumption | rfl | omega) (by first | assumption | rfl | omega) (by omega) (by omega) (by omega)) (vx_cwSW 2 hts gL_call_L_tell rfl rfl rfl (by decide +kernel) ⟨Nat.le_of_ble_eq_true rfl, Nat.le_of_ble_eq_true rfl⟩) (kN_full hP hD hS hA hE hK) rfl hl.1 rfl (Nat.le_of_ble_eq_true rfl) dL_call_63 ⟨Nat.le_of_ble_eq_true rfl, Nat.le_of_ble_eq_true rfl⟩ (fun H locs hP hD hS hz => ?_)
  have hP : va_P G vwCl (oC T (w, q, qz, h, qs, t, gr, u, tr, oc) (Sw, sa S 11 (upd ((S 11)) rr ((S 0 1))), Z, sc (sc Sh 1 (nI (hPo o n))) 2 (nI (hPn n)), updS Hs (hPi o n) S, X, Gg, U, K, O)) H := hP
  have hD : va_D A (oC T (w, q, qz, h, qs, t, gr, u, tr, oc) (Sw, sa S 11 (upd ((S 11)) rr ((S 0 1))), Z, sc (sc Sh 1 (nI (hPo o n))) 2 (nI (hPn n)), updS Hs (hPi o n) S, X, Gg, U, K, O)) := hD
  subst hQ
  have hP9 : va_P G vwCl (oC T (w, q, qz, h, qs, t, gr, u, tr, oc) (Sw, sa S 11 (upd (S 11) rr (S 0 1)), Z, sc (sc Sh 1 (nI (hPo o n))) 2 (nI (hPn n)), updS Hs (hPi o n) S, X, Gg, U, K, O)) H := hP
  have hD9 : va_D A (oC T (w, q, qz, h, qs, t, gr, u, tr, oc) (Sw, sa S 11 (upd (S 11) rr (S 0 1)), Z, sc (sc Sh 1 (nI (hPo o n))) 2 (nI (hPn n)), updS Hs (hPi o n) S, X, Gg, U, K, O)) := hD
  exact e_rwi hx hb hr hlocks hS rfl hP9 hD9 dL_call_66
set_option maxHeartbeats 4000000 in
set_option maxRecDepth 100000 in
theorem c_L_call_3 (l : Launch) (G : va_G) (T : Nat → ClassId) (sz : Nat) (w : Nat → Nat) (q : Nat → Nat) (qz : Nat → Nat) (h : Nat → Nat) (qs : Nat → Nat → Nat) (t : Nat → Nat) (gr : Nat → Nat) (u : Nat → Nat) (tr : Nat → Nat) (oc : Nat → Nat) (Sw : Nat → Nat → Int32) (S : Nat → Nat → Int32) (Z : Nat → Nat → Int32) (Sh : Nat → Nat → Int32) (Hs : Nat → Nat → Nat → Int32) (X : Nat → Nat → Int32) (Gg : Nat → Nat → Int32) (U : Nat → Nat → Int32) (K : Nat → Nat → Int32) (O : Nat → Nat → Int32) (o : Nat) (n : Nat) (kk : Nat) (ee : Nat) (ho : Sh 0 1 = nI o) (hn : Sh 0 2 = nI n) (ho6 : o < 6) (hn6 : n ≤ 6) (hk9 : kk < 7) : RWi l yL_call wsL_call 15 0 0 G T sz (oC T (w, q, qz, h, qs, t, gr, u, tr, oc) (Sw, S, Z, Sh, Hs, X, Gg, U, K, O)) [.ref (w 0), .int (nI 3), .int (nI kk), .int (nI ee)] (S 0 1) (oC T (w, q, qz, h, qs, t, gr, u, tr, oc) (Sw, sc S 1 (nI kk), Z, sc (sc Sh 1 (nI (hPo o n))) 2 (nI (hPn n)), updS Hs (hPi o n) S, X, Gg, U, K, O)) := by
  refine Met.ofW (cc := cL_call) (maxL := 4) (ret := (some .int)) (by decide) rfl ?_
  intro p e s m args below meth c s₁ B hml hv
  obtain ⟨ha, hsz, hP, hK, hD0, hE0⟩ := hv
  have hx := B.exec
  have hb := B.bytes
  have hr := B.returns
  have hlocks := B.notSynchronized
  have hts := atoms_spec (ws := wsL_call) B.pre
  have hown : s.vm.findClass RL = some m.cls := findClass_of_methodNamed B.named
  have cx : CallFix p m c cL_call 4 s args wsL_call RL := ⟨hx, hb, hml, hown, hts⟩
  subst hsz
  have hD := hD0.self (sz := s.heap.size)
  generalize hAe : va_A (oC T (w, q, qz, h, qs, t, gr, u, tr, oc) (Sw, S, Z, Sh, Hs, X, Gg, U, K, O)) s.heap.size = A at hD hE0 ⊢
  have hE : gE A s s.heap := hE0
  have hA : ∀ q : Nat, s.heap.size ≤ q → A q := fun q h => by rw [← hAe]; exact Or.inr h
  have hS : va_S A s.heap s.heap [] := va_S.rf
  refine w_entry ha (Nat.le_of_ble_eq_true rfl) (fun ls hl => ?_)
  refine w_q (fun Q0 hQ => ?_)
  have hl : lv_has ls 4 [(0, .ref (w 0)), (1, .int (nI 3)), (2, .int (nI kk)), (3, .int (nI ee))] := hl
  have hP : va_P G vwCl (oC T (w, q, qz, h, qs, t, gr, u, tr, oc) (Sw, S, Z, Sh, Hs, X, Gg, U, K, O)) s.heap := hP
  have hD : va_D A (oC T (w, q, qz, h, qs, t, gr, u, tr, oc) (Sw, S, Z, Sh, Hs, X, Gg, U, K, O)) := hD
  skip
  refine w_h (fun H locs hHe hLe => ?_)
  have hP : va_P G vwCl (oC T (w, q, qz, h, qs, t, gr, u, tr, oc) (Sw, S, Z, Sh, Hs, X, Gg, U, K, O)) H := by rw [hHe]; exact hP
  have hS : va_S A s.heap H locs := by rw [hHe, hLe]; exact hS
  refine lv_iload_n hx hb dL_call_0 rfl (lv_at hl 1 rfl) ?_
  refine n_tab (a := 3) (off := 66) (tgt := 67) hx hb (by decide) dL_call_1 (by decide) (by decide) rfl (by decide) ?_
  refine lv_aload_n hx hb dL_call_67 rfl (lv_at hl 0 rfl) ?_
  refine lv_iload_n hx hb dL_call_68 rfl (lv_at hl 2 rfl) ?_
  refine k_lwS (As := [.ref (w 0), .int (nI kk)]) (rest := []) (wc := (oC T (w, q, qz, h, qs, t, gr, u, tr, oc) (Sw, S, Z, Sh, Hs, X, Gg, U, K, O))) (wr := []) (w1 := (oC T (w, q, qz, h, qs, t, gr, u, tr, oc) (Sw, sc S 1 (nI kk), Z, sc (sc Sh 1 (nI (hPo o n))) 2 (nI (hPn n)), updS Hs (hPi o n) S, X, Gg, U, K, O))) (d := 4) (mc := 0) (ms := 0) (v := (S 0 1)) cx (c_L_key l G T H.size w q qz h qs t gr u tr oc Sw S Z Sh Hs X Gg U K O o n kk (by first | assumption | rfl | omega) (by first | assumption | rfl | omega) (by omega) (by omega) (by omega)) (vx_cwSW 2 hts gL_call_L_key rfl rfl rfl (by decide +kernel) ⟨Nat.le_of_ble_eq_true rfl, Nat.le_of_ble_eq_true rfl⟩) (kN_full hP hD hS hA hE hK) rfl hl.1 rfl (Nat.le_of_ble_eq_true rfl) dL_call_69 ⟨Nat.le_of_ble_eq_true rfl, Nat.le_of_ble_eq_true rfl⟩ (fun H locs hP hD hS hz => ?_)
  have hP : va_P G vwCl (oC T (w, q, qz, h, qs, t, gr, u, tr, oc) (Sw, sc S 1 (nI kk), Z, sc (sc Sh 1 (nI (hPo o n))) 2 (nI (hPn n)), updS Hs (hPi o n) S, X, Gg, U, K, O)) H := hP
  have hD : va_D A (oC T (w, q, qz, h, qs, t, gr, u, tr, oc) (Sw, sc S 1 (nI kk), Z, sc (sc Sh 1 (nI (hPo o n))) 2 (nI (hPn n)), updS Hs (hPi o n) S, X, Gg, U, K, O)) := hD
  subst hQ
  have hP9 : va_P G vwCl (oC T (w, q, qz, h, qs, t, gr, u, tr, oc) (Sw, sc S 1 (nI kk), Z, sc (sc Sh 1 (nI (hPo o n))) 2 (nI (hPn n)), updS Hs (hPi o n) S, X, Gg, U, K, O)) H := hP
  have hD9 : va_D A (oC T (w, q, qz, h, qs, t, gr, u, tr, oc) (Sw, sc S 1 (nI kk), Z, sc (sc Sh 1 (nI (hPo o n))) 2 (nI (hPn n)), updS Hs (hPi o n) S, X, Gg, U, K, O)) := hD
  exact e_rwi hx hb hr hlocks hS rfl hP9 hD9 dL_call_72
set_option maxHeartbeats 4000000 in
set_option maxRecDepth 100000 in
theorem c_L_call_4 (l : Launch) (G : va_G) (T : Nat → ClassId) (sz : Nat) (w : Nat → Nat) (q : Nat → Nat) (qz : Nat → Nat) (h : Nat → Nat) (qs : Nat → Nat → Nat) (t : Nat → Nat) (gr : Nat → Nat) (u : Nat → Nat) (tr : Nat → Nat) (oc : Nat → Nat) (Sw : Nat → Nat → Int32) (S : Nat → Nat → Int32) (Z : Nat → Nat → Int32) (Sh : Nat → Nat → Int32) (Hs : Nat → Nat → Nat → Int32) (X : Nat → Nat → Int32) (Gg : Nat → Nat → Int32) (U : Nat → Nat → Int32) (K : Nat → Nat → Int32) (O : Nat → Nat → Int32) (o : Nat) (n : Nat) (aa : Nat) (ee : Nat) (ho : Sh 0 1 = nI o) (hn : Sh 0 2 = nI n) (ho6 : o < 6) (hn6 : n ≤ 6) : RWi l yL_call wsL_call 15 0 0 G T sz (oC T (w, q, qz, h, qs, t, gr, u, tr, oc) (Sw, S, Z, Sh, Hs, X, Gg, U, K, O)) [.ref (w 0), .int (nI 4), .int (nI aa), .int (nI ee)] (S 0 0 + nI 1) (oC T (w, q, qz, h, qs, t, gr, u, tr, oc) (Sw, sa (sc (sc S 0 (S 0 0 + nI 1)) 3 (nI 0)) 12 (pBM (S 0 0 + nI 1) (S 12)), Z, sc (sc Sh 1 (nI (hPo o n))) 2 (nI (hPn n)), updS Hs (hPi o n) S, X, Gg, U, K, O)) := by
  refine Met.ofW (cc := cL_call) (maxL := 4) (ret := (some .int)) (by decide) rfl ?_
  intro p e s m args below meth c s₁ B hml hv
  obtain ⟨ha, hsz, hP, hK, hD0, hE0⟩ := hv
  have hx := B.exec
  have hb := B.bytes
  have hr := B.returns
  have hlocks := B.notSynchronized
  have hts := atoms_spec (ws := wsL_call) B.pre
  have hown : s.vm.findClass RL = some m.cls := findClass_of_methodNamed B.named
  have cx : CallFix p m c cL_call 4 s args wsL_call RL := ⟨hx, hb, hml, hown, hts⟩
  subst hsz
  have hD := hD0.self (sz := s.heap.size)
  generalize hAe : va_A (oC T (w, q, qz, h, qs, t, gr, u, tr, oc) (Sw, S, Z, Sh, Hs, X, Gg, U, K, O)) s.heap.size = A at hD hE0 ⊢
  have hE : gE A s s.heap := hE0
  have hA : ∀ q : Nat, s.heap.size ≤ q → A q := fun q h => by rw [← hAe]; exact Or.inr h
  have hS : va_S A s.heap s.heap [] := va_S.rf
  refine w_entry ha (Nat.le_of_ble_eq_true rfl) (fun ls hl => ?_)
  refine w_q (fun Q0 hQ => ?_)
  have hl : lv_has ls 4 [(0, .ref (w 0)), (1, .int (nI 4)), (2, .int (nI aa)), (3, .int (nI ee))] := hl
  have hP : va_P G vwCl (oC T (w, q, qz, h, qs, t, gr, u, tr, oc) (Sw, S, Z, Sh, Hs, X, Gg, U, K, O)) s.heap := hP
  have hD : va_D A (oC T (w, q, qz, h, qs, t, gr, u, tr, oc) (Sw, S, Z, Sh, Hs, X, Gg, U, K, O)) := hD
  skip
  refine w_h (fun H locs hHe hLe => ?_)
  have hP : va_P G vwCl (oC T (w, q, qz, h, qs, t, gr, u, tr, oc) (Sw, S, Z, Sh, Hs, X, Gg, U, K, O)) H := by rw [hHe]; exact hP
  have hS : va_S A s.heap H locs := by rw [hHe, hLe]; exact hS
  refine lv_iload_n hx hb dL_call_0 rfl (lv_at hl 1 rfl) ?_
  refine n_tab (a := 4) (off := 72) (tgt := 73) hx hb (by decide) dL_call_1 (by decide) (by decide) rfl (by decide) ?_
  refine lv_aload_n hx hb dL_call_73 rfl (lv_at hl 0 rfl) ?_
  refine k_rwV (As := []) (rest := []) (wc := (oC T (w, q, qz, h, qs, t, gr, u, tr, oc) (Sw, S, Z, Sh, Hs, X, Gg, U, K, O))) (wr := []) (w1 := (oC T (w, q, qz, h, qs, t, gr, u, tr, oc) (Sw, sa (sc (sc S 0 ((S 0 0) + nI 1)) 3 (nI 0)) 12 (pBM ((S 0 0) + nI 1) ((S 12))), Z, sc (sc Sh 1 (nI (hPo o n))) 2 (nI (hPn n)), updS Hs (hPi o n) S, X, Gg, U, K, O))) (d := 3) (mc := 0) (ms := 0) (v := (S 0 0) + nI 1) cx (w_X7_bell l G T H.size w q qz h qs t gr u tr oc Sw S Z Sh Hs X Gg U K O o n (by first | assumption | rfl | omega) (by first | assumption | rfl | omega) (by omega) (by omega)) (cwV 0 hts gL_call_X7_bell rfl rfl rfl (by decide +kernel) ⟨Nat.le_of_ble_eq_true rfl, Nat.le_of_ble_eq_true rfl⟩) (kN_full hP hD hS hA hE hK) (va_recv hK hP (ci := 7) (q0 := 0) rfl rfl) rfl hl.1 rfl (Nat.le_of_ble_eq_true rfl) dL_call_74 ⟨Nat.le_of_ble_eq_true rfl, Nat.le_of_ble_eq_true rfl⟩ (fun H locs hP hD hS hz => ?_)
  have hP : va_P G vwCl (oC T (w, q, qz, h, qs, t, gr, u, tr, oc) (Sw, sa (sc (sc S 0 ((S 0 0) + nI 1)) 3 (nI 0)) 12 (pBM ((S 0 0) + nI 1) ((S 12))), Z, sc (sc Sh 1 (nI (hPo o n))) 2 (nI (hPn n)), updS Hs (hPi o n) S, X, Gg, U, K, O)) H := hP
  have hD : va_D A (oC T (w, q, qz, h, qs, t, gr, u, tr, oc) (Sw, sa (sc (sc S 0 ((S 0 0) + nI 1)) 3 (nI 0)) 12 (pBM ((S 0 0) + nI 1) ((S 12))), Z, sc (sc Sh 1 (nI (hPo o n))) 2 (nI (hPn n)), updS Hs (hPi o n) S, X, Gg, U, K, O)) := hD
  subst hQ
  have hP9 : va_P G vwCl (oC T (w, q, qz, h, qs, t, gr, u, tr, oc) (Sw, sa (sc (sc S 0 (S 0 0 + nI 1)) 3 (nI 0)) 12 (pBM (S 0 0 + nI 1) (S 12)), Z, sc (sc Sh 1 (nI (hPo o n))) 2 (nI (hPn n)), updS Hs (hPi o n) S, X, Gg, U, K, O)) H := hP
  have hD9 : va_D A (oC T (w, q, qz, h, qs, t, gr, u, tr, oc) (Sw, sa (sc (sc S 0 (S 0 0 + nI 1)) 3 (nI 0)) 12 (pBM (S 0 0 + nI 1) (S 12)), Z, sc (sc Sh 1 (nI (hPo o n))) 2 (nI (hPn n)), updS Hs (hPi o n) S, X, Gg, U, K, O)) := hD
  exact e_rwi hx hb hr hlocks hS rfl hP9 hD9 dL_call_77
set_option maxHeartbeats 4000000 in
set_option maxRecDepth 100000 in
theorem c_L_call_5 (l : Launch) (G : va_G) (T : Nat → ClassId) (sz : Nat) (w : Nat → Nat) (q : Nat → Nat) (qz : Nat → Nat) (h : Nat → Nat) (qs : Nat → Nat → Nat) (t : Nat → Nat) (gr : Nat → Nat) (u : Nat → Nat) (tr : Nat → Nat) (oc : Nat → Nat) (Sw : Nat → Nat → Int32) (S : Nat → Nat → Int32) (Z : Nat → Nat → Int32) (Sh : Nat → Nat → Int32) (Hs : Nat → Nat → Nat → Int32) (X : Nat → Nat → Int32) (Gg : Nat → Nat → Int32) (U : Nat → Nat → Int32) (K : Nat → Nat → Int32) (O : Nat → Nat → Int32) (o : Nat) (n : Nat) (ff : Nat) (ee : Nat) (ho : Sh 0 1 = nI o) (hn : Sh 0 2 = nI n) (ho6 : o < 6) (hn6 : n ≤ 6) (hf3 : ff < 3) (he20 : ee < 20) : RWi l yL_call wsL_call 15 0 0 G T sz (oC T (w, q, qz, h, qs, t, gr, u, tr, oc) (Sw, S, Z, Sh, Hs, X, Gg, U, K, O)) [.ref (w 0), .int (nI 5), .int (nI ff), .int (nI ee)] (pBC (pLk S ff (decide (ee % 2 = 1)))) (oC T (w, q, qz, h, qs, t, gr, u, tr, oc) (Sw, sc S 2 (pLk S ff (decide (ee % 2 = 1))), Z, sc (sc Sh 1 (nI (hPo o n))) 2 (nI (hPn n)), updS Hs (hPi o n) S, X, Gg, U, K, O)) := by
  refine Met.ofW (cc := cL_call) (maxL := 4) (ret := (some .int)) (by decide) rfl ?_
  intro p e s m args below meth c s₁ B hml hv
  obtain ⟨ha, hsz, hP, hK, hD0, hE0⟩ := hv
  have hx := B.exec
  have hb := B.bytes
  have hr := B.returns
  have hlocks := B.notSynchronized
  have hts := atoms_spec (ws := wsL_call) B.pre
  have hown : s.vm.findClass RL = some m.cls := findClass_of_methodNamed B.named
  have cx : CallFix p m c cL_call 4 s args wsL_call RL := ⟨hx, hb, hml, hown, hts⟩
  subst hsz
  have hD := hD0.self (sz := s.heap.size)
  generalize hAe : va_A (oC T (w, q, qz, h, qs, t, gr, u, tr, oc) (Sw, S, Z, Sh, Hs, X, Gg, U, K, O)) s.heap.size = A at hD hE0 ⊢
  have hE : gE A s s.heap := hE0
  have hA : ∀ q : Nat, s.heap.size ≤ q → A q := fun q h => by rw [← hAe]; exact Or.inr h
  have hS : va_S A s.heap s.heap [] := va_S.rf
  refine w_entry ha (Nat.le_of_ble_eq_true rfl) (fun ls hl => ?_)
  refine w_q (fun Q0 hQ => ?_)
  have hl : lv_has ls 4 [(0, .ref (w 0)), (1, .int (nI 5)), (2, .int (nI ff)), (3, .int (nI ee))] := hl
  have hP : va_P G vwCl (oC T (w, q, qz, h, qs, t, gr, u, tr, oc) (Sw, S, Z, Sh, Hs, X, Gg, U, K, O)) s.heap := hP
  have hD : va_D A (oC T (w, q, qz, h, qs, t, gr, u, tr, oc) (Sw, S, Z, Sh, Hs, X, Gg, U, K, O)) := hD
  skip
  refine w_h (fun H locs hHe hLe => ?_)
  have hP : va_P G vwCl (oC T (w, q, qz, h, qs, t, gr, u, tr, oc) (Sw, S, Z, Sh, Hs, X, Gg, U, K, O)) H := by rw [hHe]; exact hP
  have hS : va_S A s.heap H locs := by rw [hHe, hLe]; exact hS
  refine lv_iload_n hx hb dL_call_0 rfl (lv_at hl 1 rfl) ?_
  refine n_tab (a := 5) (off := 77) (tgt := 78) hx hb (by decide) dL_call_1 (by decide) (by decide) rfl (by decide) ?_
  refine lv_aload_n hx hb dL_call_78 rfl (lv_at hl 0 rfl) ?_
  refine lv_iload_n hx hb dL_call_79 rfl (lv_at hl 2 rfl) ?_
  refine lv_iload_n hx hb dL_call_80 rfl (lv_at hl 3 rfl) ?_
  refine n_iconst hx hb 2 dL_call_81 (by decide) ?_
  refine n_irem (a := ee) (b := 2) hx hb (by omega) (by decide) (by decide) dL_call_82 ?_
  refine n_iconst hx hb 1 dL_call_83 (by decide) ?_
  have J_1 : ∀ y9 : Int32, y9 = (bI (decide (ee % 2 = 1))) → W p l e (headSpec wsL_call (rmD 15 0 0)).room s m args below meth c H locs 0 0 Q0 (F0 m 92 ls (.int y9 :: .int (nI ff) :: .ref (w 0) :: [])) := by
    intro y9 hy9
    subst hy9
    refine k_lwS (As := [.ref (w 0), .int (nI ff), .int (bI (decide (ee % 2 = 1)))]) (rest := []) (wc := (oC T (w, q, qz, h, qs, t, gr, u, tr, oc) (Sw, S, Z, Sh, Hs, X, Gg, U, K, O))) (wr := []) (w1 := (oC T (w, q, qz, h, qs, t, gr, u, tr, oc) (Sw, sc S 2 (pLk S ff (decide (ee % 2 = 1))), Z, sc (sc Sh 1 (nI (hPo o n))) 2 (nI (hPn n)), updS Hs (hPi o n) S, X, Gg, U, K, O))) (d := 4) (mc := 0) (ms := 0) (v := pBC (pLk S ff (decide (ee % 2 = 1)))) cx (c_L_lookout l G T H.size w q qz h qs t gr u tr oc Sw S Z Sh Hs X Gg U K O o n ff (decide (ee % 2 = 1)) (by first | assumption | rfl | omega) (by first | assumption | rfl | omega) (by omega) (by omega) (by omega)) (vx_cwSW 3 hts gL_call_L_lookout rfl rfl rfl (by decide +kernel) ⟨Nat.le_of_ble_eq_true rfl, Nat.le_of_ble_eq_true rfl⟩) (kN_full hP hD hS hA hE hK) rfl hl.1 rfl (Nat.le_of_ble_eq_true rfl) dL_call_92 ⟨Nat.le_of_ble_eq_true rfl, Nat.le_of_ble_eq_true rfl⟩ (fun H locs hP hD hS hz => ?_)
    have hP : va_P G vwCl (oC T (w, q, qz, h, qs, t, gr, u, tr, oc) (Sw, sc S 2 (pLk S ff (decide (ee % 2 = 1))), Z, sc (sc Sh 1 (nI (hPo o n))) 2 (nI (hPn n)), updS Hs (hPi o n) S, X, Gg, U, K, O)) H := hP
    have hD : va_D A (oC T (w, q, qz, h, qs, t, gr, u, tr, oc) (Sw, sc S 2 (pLk S ff (decide (ee % 2 = 1))), Z, sc (sc Sh 1 (nI (hPo o n))) 2 (nI (hPn n)), updS Hs (hPi o n) S, X, Gg, U, K, O)) := hD
    subst hQ
    have hP9 : va_P G vwCl (oC T (w, q, qz, h, qs, t, gr, u, tr, oc) (Sw, sc S 2 (pLk S ff (decide (ee % 2 = 1))), Z, sc (sc Sh 1 (nI (hPo o n))) 2 (nI (hPn n)), updS Hs (hPi o n) S, X, Gg, U, K, O)) H := hP
    have hD9 : va_D A (oC T (w, q, qz, h, qs, t, gr, u, tr, oc) (Sw, sc S 2 (pLk S ff (decide (ee % 2 = 1))), Z, sc (sc Sh 1 (nI (hPo o n))) 2 (nI (hPn n)), updS Hs (hPi o n) S, X, Gg, U, K, O)) := hD
    exact e_rwi hx hb hr hlocks hS rfl hP9 hD9 dL_call_95
  refine n_icmp_ne (a := ee % 2) (b := 1) (tgt := 91) hx hb (by omega) (by decide) dL_call_84 (by decide) (fun c_2 => ?_) (fun c_3 => ?_)
  · skip
    refine n_iconst hx hb 0 dL_call_91 (by decide) ?_
    exact J_1 _ (by first | exact bt1 (by assumption) | exact bt0 (by assumption))
  · skip
    refine n_iconst hx hb 1 dL_call_87 (by decide) ?_
    refine lv_goto (tgt := 92) hx hb dL_call_88 (by decide) ?_
    exact J_1 _ (by first | exact bt1 (by assumption) | exact bt0 (by assumption))
set_option maxHeartbeats 4000000 in
set_option maxRecDepth 100000 in
theorem c_L_call_6 (l : Launch) (G : va_G) (T : Nat → ClassId) (sz : Nat) (w : Nat → Nat) (q : Nat → Nat) (qz : Nat → Nat) (h : Nat → Nat) (qs : Nat → Nat → Nat) (t : Nat → Nat) (gr : Nat → Nat) (u : Nat → Nat) (tr : Nat → Nat) (oc : Nat → Nat) (Sw : Nat → Nat → Int32) (S : Nat → Nat → Int32) (Z : Nat → Nat → Int32) (Sh : Nat → Nat → Int32) (Hs : Nat → Nat → Nat → Int32) (X : Nat → Nat → Int32) (Gg : Nat → Nat → Int32) (U : Nat → Nat → Int32) (K : Nat → Nat → Int32) (O : Nat → Nat → Int32) (o : Nat) (n : Nat) (ff : Nat) (mm : Nat) (ho : Sh 0 1 = nI o) (hn : Sh 0 2 = nI n) (ho6 : o < 6) (hn6 : n ≤ 6) (hf3 : ff < 3) (hm20 : mm < 20) : RWi l yL_call wsL_call 15 0 0 G T sz (oC T (w, q, qz, h, qs, t, gr, u, tr, oc) (Sw, S, Z, Sh, Hs, X, Gg, U, K, O)) [.ref (w 0), .int (nI 6), .int (nI ff), .int (nI mm)] (bI (pHB (S 8 mm ^^^ iShl (nI 1) (nI ff)) (nI ff))) (oC T (w, q, qz, h, qs, t, gr, u, tr, oc) (Sw, sa S 8 (upd (S 8) mm (S 8 mm ^^^ iShl (nI 1) (nI ff))), Z, sc (sc Sh 1 (nI (hPo o n))) 2 (nI (hPn n)), updS Hs (hPi o n) S, X, Gg, U, K, O)) := by
  refine Met.ofW (cc := cL_call) (maxL := 4) (ret := (some .int)) (by decide) rfl ?_
  intro p e s m args below meth c s₁ B hml hv
  obtain ⟨ha, hsz, hP, hK, hD0, hE0⟩ := hv
  have hx := B.exec
  have hb := B.bytes
  have hr := B.returns
  have hlocks := B.notSynchronized
  have hts := atoms_spec (ws := wsL_call) B.pre
  have hown : s.vm.findClass RL = some m.cls := findClass_of_methodNamed B.named
  have cx : CallFix p m c cL_call 4 s args wsL_call RL := ⟨hx, hb, hml, hown, hts⟩
  subst hsz
  have hD := hD0.self (sz := s.heap.size)
  generalize hAe : va_A (oC T (w, q, qz, h, qs, t, gr, u, tr, oc) (Sw, S, Z, Sh, Hs, X, Gg, U, K, O)) s.heap.size = A at hD hE0 ⊢
  have hE : gE A s s.heap := hE0
  have hA : ∀ q : Nat, s.heap.size ≤ q → A q := fun q h => by rw [← hAe]; exact Or.inr h
  have hS : va_S A s.heap s.heap [] := va_S.rf
  refine w_entry ha (Nat.le_of_ble_eq_true rfl) (fun ls hl => ?_)
  refine w_q (fun Q0 hQ => ?_)
  have hl : lv_has ls 4 [(0, .ref (w 0)), (1, .int (nI 6)), (2, .int (nI ff)), (3, .int (nI mm))] := hl
  have hP : va_P G vwCl (oC T (w, q, qz, h, qs, t, gr, u, tr, oc) (Sw, S, Z, Sh, Hs, X, Gg, U, K, O)) s.heap := hP
  have hD : va_D A (oC T (w, q, qz, h, qs, t, gr, u, tr, oc) (Sw, S, Z, Sh, Hs, X, Gg, U, K, O)) := hD
  skip
  refine w_h (fun H locs hHe hLe => ?_)
  have hP : va_P G vwCl (oC T (w, q, qz, h, qs, t, gr, u, tr, oc) (Sw, S, Z, Sh, Hs, X, Gg, U, K, O)) H := by rw [hHe]; exact hP
  have hS : va_S A s.heap H locs := by rw [hHe, hLe]; exact hS
  refine lv_iload_n hx hb dL_call_0 rfl (lv_at hl 1 rfl) ?_
  refine n_tab (a := 6) (off := 95) (tgt := 96) hx hb (by decide) dL_call_1 (by decide) (by decide) rfl (by decide) ?_
  refine lv_aload_n hx hb dL_call_96 rfl (lv_at hl 0 rfl) ?_
  refine lv_iload_n hx hb dL_call_97 rfl (lv_at hl 2 rfl) ?_
  refine lv_iload_n hx hb dL_call_98 rfl (lv_at hl 3 rfl) ?_
  refine k_lwS (As := [.ref (w 0), .int (nI ff), .int (nI mm)]) (rest := []) (wc := (oC T (w, q, qz, h, qs, t, gr, u, tr, oc) (Sw, S, Z, Sh, Hs, X, Gg, U, K, O))) (wr := []) (w1 := (oC T (w, q, qz, h, qs, t, gr, u, tr, oc) (Sw, sa S 8 (upd ((S 8)) mm ((S 8) mm ^^^ iShl (nI 1) (nI ff))), Z, sc (sc Sh 1 (nI (hPo o n))) 2 (nI (hPn n)), updS Hs (hPi o n) S, X, Gg, U, K, O))) (d := 4) (mc := 0) (ms := 0) (v := bI (pHB ((S 8) mm ^^^ iShl (nI 1) (nI ff)) (nI ff))) cx (c_L_ban l G T H.size w q qz h qs t gr u tr oc Sw S Z Sh Hs X Gg U K O o n ff mm (by first | assumption | rfl | omega) (by first | assumption | rfl | omega) (by omega) (by omega) (by omega) (by omega)) (vx_cwSW 3 hts gL_call_L_ban rfl rfl rfl (by decide +kernel) ⟨Nat.le_of_ble_eq_true rfl, Nat.le_of_ble_eq_true rfl⟩) (kN_full hP hD hS hA hE hK) rfl hl.1 rfl (Nat.le_of_ble_eq_true rfl) dL_call_99 ⟨Nat.le_of_ble_eq_true rfl, Nat.le_of_ble_eq_true rfl⟩ (fun H locs hP hD hS hz => ?_)
  have hP : va_P G vwCl (oC T (w, q, qz, h, qs, t, gr, u, tr, oc) (Sw, sa S 8 (upd ((S 8)) mm ((S 8) mm ^^^ iShl (nI 1) (nI ff))), Z, sc (sc Sh 1 (nI (hPo o n))) 2 (nI (hPn n)), updS Hs (hPi o n) S, X, Gg, U, K, O)) H := hP
  have hD : va_D A (oC T (w, q, qz, h, qs, t, gr, u, tr, oc) (Sw, sa S 8 (upd ((S 8)) mm ((S 8) mm ^^^ iShl (nI 1) (nI ff))), Z, sc (sc Sh 1 (nI (hPo o n))) 2 (nI (hPn n)), updS Hs (hPi o n) S, X, Gg, U, K, O)) := hD
  subst hQ
  have hP9 : va_P G vwCl (oC T (w, q, qz, h, qs, t, gr, u, tr, oc) (Sw, sa S 8 (upd (S 8) mm (S 8 mm ^^^ iShl (nI 1) (nI ff))), Z, sc (sc Sh 1 (nI (hPo o n))) 2 (nI (hPn n)), updS Hs (hPi o n) S, X, Gg, U, K, O)) H := hP
  have hD9 : va_D A (oC T (w, q, qz, h, qs, t, gr, u, tr, oc) (Sw, sa S 8 (upd (S 8) mm (S 8 mm ^^^ iShl (nI 1) (nI ff))), Z, sc (sc Sh 1 (nI (hPo o n))) 2 (nI (hPn n)), updS Hs (hPi o n) S, X, Gg, U, K, O)) := hD
  exact e_rwi hx hb hr hlocks hS rfl hP9 hD9 dL_call_102
set_option maxHeartbeats 4000000 in
set_option maxRecDepth 100000 in
theorem c_L_call_7 (l : Launch) (G : va_G) (T : Nat → ClassId) (sz : Nat) (w : Nat → Nat) (q : Nat → Nat) (qz : Nat → Nat) (h : Nat → Nat) (qs : Nat → Nat → Nat) (t : Nat → Nat) (gr : Nat → Nat) (u : Nat → Nat) (tr : Nat → Nat) (oc : Nat → Nat) (Sw : Nat → Nat → Int32) (S : Nat → Nat → Int32) (Z : Nat → Nat → Int32) (Sh : Nat → Nat → Int32) (Hs : Nat → Nat → Nat → Int32) (X : Nat → Nat → Int32) (Gg : Nat → Nat → Int32) (U : Nat → Nat → Int32) (K : Nat → Nat → Int32) (O : Nat → Nat → Int32) (o : Nat) (n : Nat) (ii : Nat) (ee : Nat) (ho : Sh 0 1 = nI o) (hn : Sh 0 2 = nI n) (ho6 : o < 6) (hn6 : n ≤ 6) (hi2 : ii < 2) (hv9 : pVO (nI ii) (nI ee) = true) : RWi l yL_call wsL_call 15 0 0 G T sz (oC T (w, q, qz, h, qs, t, gr, u, tr, oc) (Sw, S, Z, Sh, Hs, X, Gg, U, K, O)) [.ref (w 0), .int (nI 7), .int (nI ii), .int (nI ee)] (S 5 ii) (oC T (w, q, qz, h, qs, t, gr, u, tr, oc) (Sw, sa S 5 (upd (S 5) ii (nI ee)), Z, sc (sc Sh 1 (nI (hPo o n))) 2 (nI (hPn n)), updS Hs (hPi o n) S, X, Gg, U, K, O)) := by
  refine Met.ofW (cc := cL_call) (maxL := 4) (ret := (some .int)) (by decide) rfl ?_
  intro p e s m args below meth c s₁ B hml hv
  obtain ⟨ha, hsz, hP, hK, hD0, hE0⟩ := hv
  have hx := B.exec
  have hb := B.bytes
  have hr := B.returns
  have hlocks := B.notSynchronized
  have hts := atoms_spec (ws := wsL_call) B.pre
  have hown : s.vm.findClass RL = some m.cls := findClass_of_methodNamed B.named
  have cx : CallFix p m c cL_call 4 s args wsL_call RL := ⟨hx, hb, hml, hown, hts⟩
  subst hsz
  have hD := hD0.self (sz := s.heap.size)
  generalize hAe : va_A (oC T (w, q, qz, h, qs, t, gr, u, tr, oc) (Sw, S, Z, Sh, Hs, X, Gg, U, K, O)) s.heap.size = A at hD hE0 ⊢
  have hE : gE A s s.heap := hE0
  have hA : ∀ q : Nat, s.heap.size ≤ q → A q := fun q h => by rw [← hAe]; exact Or.inr h
  have hS : va_S A s.heap s.heap [] := va_S.rf
  refine w_entry ha (Nat.le_of_ble_eq_true rfl) (fun ls hl => ?_)
  refine w_q (fun Q0 hQ => ?_)
  have hl : lv_has ls 4 [(0, .ref (w 0)), (1, .int (nI 7)), (2, .int (nI ii)), (3, .int (nI ee))] := hl
  have hP : va_P G vwCl (oC T (w, q, qz, h, qs, t, gr, u, tr, oc) (Sw, S, Z, Sh, Hs, X, Gg, U, K, O)) s.heap := hP
  have hD : va_D A (oC T (w, q, qz, h, qs, t, gr, u, tr, oc) (Sw, S, Z, Sh, Hs, X, Gg, U, K, O)) := hD
  skip
  refine w_h (fun H locs hHe hLe => ?_)
  have hP : va_P G vwCl (oC T (w, q, qz, h, qs, t, gr, u, tr, oc) (Sw, S, Z, Sh, Hs, X, Gg, U, K, O)) H := by rw [hHe]; exact hP
  have hS : va_S A s.heap H locs := by rw [hHe, hLe]; exact hS
  refine lv_iload_n hx hb dL_call_0 rfl (lv_at hl 1 rfl) ?_
  refine n_tab (a := 7) (off := 102) (tgt := 103) hx hb (by decide) dL_call_1 (by decide) (by decide) rfl (by decide) ?_
  refine lv_aload_n hx hb dL_call_103 rfl (lv_at hl 0 rfl) ?_
  refine lv_iload_n hx hb dL_call_104 rfl (lv_at hl 2 rfl) ?_
  refine lv_iload_n hx hb dL_call_105 rfl (lv_at hl 3 rfl) ?_
  refine k_lwS (As := [.ref (w 0), .int (nI ii), .int (nI ee)]) (rest := []) (wc := (oC T (w, q, qz, h, qs, t, gr, u, tr, oc) (Sw, S, Z, Sh, Hs, X, Gg, U, K, O))) (wr := []) (w1 := (oC T (w, q, qz, h, qs, t, gr, u, tr, oc) (Sw, sa S 5 (upd ((S 5)) ii (nI ee)), Z, sc (sc Sh 1 (nI (hPo o n))) 2 (nI (hPn n)), updS Hs (hPi o n) S, X, Gg, U, K, O))) (d := 4) (mc := 0) (ms := 0) (v := (S 5) ii) cx (c_L_set l G T H.size w q qz h qs t gr u tr oc Sw S Z Sh Hs X Gg U K O o n ii (nI ee) (by first | assumption | rfl | omega) (by first | assumption | rfl | omega) (by omega) (by omega) (by omega) (by first | assumption | rfl | omega)) (vx_cwSW 3 hts gL_call_L_set rfl rfl rfl (by decide +kernel) ⟨Nat.le_of_ble_eq_true rfl, Nat.le_of_ble_eq_true rfl⟩) (kN_full hP hD hS hA hE hK) rfl hl.1 rfl (Nat.le_of_ble_eq_true rfl) dL_call_106 ⟨Nat.le_of_ble_eq_true rfl, Nat.le_of_ble_eq_true rfl⟩ (fun H locs hP hD hS hz => ?_)
  have hP : va_P G vwCl (oC T (w, q, qz, h, qs, t, gr, u, tr, oc) (Sw, sa S 5 (upd ((S 5)) ii (nI ee)), Z, sc (sc Sh 1 (nI (hPo o n))) 2 (nI (hPn n)), updS Hs (hPi o n) S, X, Gg, U, K, O)) H := hP
  have hD : va_D A (oC T (w, q, qz, h, qs, t, gr, u, tr, oc) (Sw, sa S 5 (upd ((S 5)) ii (nI ee)), Z, sc (sc Sh 1 (nI (hPo o n))) 2 (nI (hPn n)), updS Hs (hPi o n) S, X, Gg, U, K, O)) := hD
  subst hQ
  have hP9 : va_P G vwCl (oC T (w, q, qz, h, qs, t, gr, u, tr, oc) (Sw, sa S 5 (upd (S 5) ii (nI ee)), Z, sc (sc Sh 1 (nI (hPo o n))) 2 (nI (hPn n)), updS Hs (hPi o n) S, X, Gg, U, K, O)) H := hP
  have hD9 : va_D A (oC T (w, q, qz, h, qs, t, gr, u, tr, oc) (Sw, sa S 5 (upd (S 5) ii (nI ee)), Z, sc (sc Sh 1 (nI (hPo o n))) 2 (nI (hPn n)), updS Hs (hPi o n) S, X, Gg, U, K, O)) := hD
  exact e_rwi hx hb hr hlocks hS rfl hP9 hD9 dL_call_109
set_option maxHeartbeats 4000000 in
set_option maxRecDepth 100000 in
theorem c_L_call_8 (l : Launch) (G : va_G) (T : Nat → ClassId) (sz : Nat) (w : Nat → Nat) (q : Nat → Nat) (qz : Nat → Nat) (h : Nat → Nat) (qs : Nat → Nat → Nat) (t : Nat → Nat) (gr : Nat → Nat) (u : Nat → Nat) (tr : Nat → Nat) (oc : Nat → Nat) (Sw : Nat → Nat → Int32) (S : Nat → Nat → Int32) (Z : Nat → Nat → Int32) (Sh : Nat → Nat → Int32) (Hs : Nat → Nat → Nat → Int32) (X : Nat → Nat → Int32) (Gg : Nat → Nat → Int32) (U : Nat → Nat → Int32) (K : Nat → Nat → Int32) (O : Nat → Nat → Int32) (o : Nat) (n : Nat) (mm : Nat) (ee : Nat) (ho : Sh 0 1 = nI o) (hn : Sh 0 2 = nI n) (ho6 : o < 6) (hn6 : n ≤ 6) (hm20 : mm < 20) : RWi l yL_call wsL_call 15 0 0 G T sz (oC T (w, q, qz, h, qs, t, gr, u, tr, oc) (Sw, S, Z, Sh, Hs, X, Gg, U, K, O)) [.ref (w 0), .int (nI 8), .int (nI mm), .int (nI ee)] (S 6 mm) (oC T (w, q, qz, h, qs, t, gr, u, tr, oc) (Sw, sa S 6 (upd (S 6) mm (nI 0)), Z, sc (sc Sh 1 (nI (hPo o n))) 2 (nI (hPn n)), updS Hs (hPi o n) S, X, Gg, U, K, O)) := by
  refine Met.ofW (cc := cL_call) (maxL := 4) (ret := (some .int)) (by decide) rfl ?_
  intro p e s m args below meth c s₁ B hml hv
  obtain ⟨ha, hsz, hP, hK, hD0, hE0⟩ := hv
  have hx := B.exec
  have hb := B.bytes
  have hr := B.returns
  have hlocks := B.notSynchronized
  have hts := atoms_spec (ws := wsL_call) B.pre
  have hown : s.vm.findClass RL = some m.cls := findClass_of_methodNamed B.named
  have cx : CallFix p m c cL_call 4 s args wsL_call RL := ⟨hx, hb, hml, hown, hts⟩
  subst hsz
  have hD := hD0.self (sz := s.heap.size)
  generalize hAe : va_A (oC T (w, q, qz, h, qs, t, gr, u, tr, oc) (Sw, S, Z, Sh, Hs, X, Gg, U, K, O)) s.heap.size = A at hD hE0 ⊢
  have hE : gE A s s.heap := hE0
  have hA : ∀ q : Nat, s.heap.size ≤ q → A q := fun q h => by rw [← hAe]; exact Or.inr h
  have hS : va_S A s.heap s.heap [] := va_S.rf
  refine w_entry ha (Nat.le_of_ble_eq_true rfl) (fun ls hl => ?_)
  refine w_q (fun Q0 hQ => ?_)
  have hl : lv_has ls 4 [(0, .ref (w 0)), (1, .int (nI 8)), (2, .int (nI mm)), (3, .int (nI ee))] := hl
  have hP : va_P G vwCl (oC T (w, q, qz, h, qs, t, gr, u, tr, oc) (Sw, S, Z, Sh, Hs, X, Gg, U, K, O)) s.heap := hP
  have hD : va_D A (oC T (w, q, qz, h, qs, t, gr, u, tr, oc) (Sw, S, Z, Sh, Hs, X, Gg, U, K, O)) := hD
  skip
  refine w_h (fun H locs hHe hLe => ?_)
  have hP : va_P G vwCl (oC T (w, q, qz, h, qs, t, gr, u, tr, oc) (Sw, S, Z, Sh, Hs, X, Gg, U, K, O)) H := by rw [hHe]; exact hP
  have hS : va_S A s.heap H locs := by rw [hHe, hLe]; exact hS
  refine lv_iload_n hx hb dL_call_0 rfl (lv_at hl 1 rfl) ?_
  refine n_tabO (tgt := 110) hx hb dL_call_1 0 8 (by decide) rfl rfl (by decide) ?_
  refine lv_aload_n hx hb dL_call_110 rfl (lv_at hl 0 rfl) ?_
  refine lv_iload_n hx hb dL_call_111 rfl (lv_at hl 2 rfl) ?_
  refine k_lwS (As := [.ref (w 0), .int (nI mm)]) (rest := []) (wc := (oC T (w, q, qz, h, qs, t, gr, u, tr, oc) (Sw, S, Z, Sh, Hs, X, Gg, U, K, O))) (wr := []) (w1 := (oC T (w, q, qz, h, qs, t, gr, u, tr, oc) (Sw, sa S 6 (upd ((S 6)) mm (nI 0)), Z, sc (sc Sh 1 (nI (hPo o n))) 2 (nI (hPn n)), updS Hs (hPi o n) S, X, Gg, U, K, O))) (d := 4) (mc := 0) (ms := 0) (v := (S 6) mm) cx (c_L_forget l G T H.size w q qz h qs t gr u tr oc Sw S Z Sh Hs X Gg U K O o n mm (by first | assumption | rfl | omega) (by first | assumption | rfl | omega) (by omega) (by omega) (by omega)) (vx_cwSW 2 hts gL_call_L_forget rfl rfl rfl (by decide +kernel) ⟨Nat.le_of_ble_eq_true rfl, Nat.le_of_ble_eq_true rfl⟩) (kN_full hP hD hS hA hE hK) rfl hl.1 rfl (Nat.le_of_ble_eq_true rfl) dL_call_112 ⟨Nat.le_of_ble_eq_true rfl, Nat.le_of_ble_eq_true rfl⟩ (fun H locs hP hD hS hz => ?_)
  have hP : va_P G vwCl (oC T (w, q, qz, h, qs, t, gr, u, tr, oc) (Sw, sa S 6 (upd ((S 6)) mm (nI 0)), Z, sc (sc Sh 1 (nI (hPo o n))) 2 (nI (hPn n)), updS Hs (hPi o n) S, X, Gg, U, K, O)) H := hP
  have hD : va_D A (oC T (w, q, qz, h, qs, t, gr, u, tr, oc) (Sw, sa S 6 (upd ((S 6)) mm (nI 0)), Z, sc (sc Sh 1 (nI (hPo o n))) 2 (nI (hPn n)), updS Hs (hPi o n) S, X, Gg, U, K, O)) := hD
  subst hQ
  have hP9 : va_P G vwCl (oC T (w, q, qz, h, qs, t, gr, u, tr, oc) (Sw, sa S 6 (upd (S 6) mm (nI 0)), Z, sc (sc Sh 1 (nI (hPo o n))) 2 (nI (hPn n)), updS Hs (hPi o n) S, X, Gg, U, K, O)) H := hP
  have hD9 : va_D A (oC T (w, q, qz, h, qs, t, gr, u, tr, oc) (Sw, sa S 6 (upd (S 6) mm (nI 0)), Z, sc (sc Sh 1 (nI (hPo o n))) 2 (nI (hPn n)), updS Hs (hPi o n) S, X, Gg, U, K, O)) := hD
  exact e_rwi hx hb hr hlocks hS rfl hP9 hD9 dL_call_115
set_option maxHeartbeats 4000000 in
set_option maxRecDepth 100000 in
theorem c_L_call_0n (l : Launch) (hst : l.stackTraces = false) (G : va_G) (T : Nat → ClassId) (sz : Nat) (w : Nat → Nat) (q : Nat → Nat) (qz : Nat → Nat) (h : Nat → Nat) (qs : Nat → Nat → Nat) (t : Nat → Nat) (gr : Nat → Nat) (u : Nat → Nat) (tr : Nat → Nat) (oc : Nat → Nat) (Sw : Nat → Nat → Int32) (S : Nat → Nat → Int32) (Z : Nat → Nat → Int32) (Sh : Nat → Nat → Int32) (Hs : Nat → Nat → Nat → Int32) (X : Nat → Nat → Int32) (Gg : Nat → Nat → Int32) (U : Nat → Nat → Int32) (K : Nat → Nat → Int32) (O : Nat → Nat → Int32) (n : Nat) (cd : Nat → Nat) (tl : Nat → Nat) (mm : Nat) (ee : Nat) (hlen : X 0 1 = nI n) (hn60 : n ≤ 60) (hcd : ∀ i : Nat, i < n → X 1 i = nI (cd i)) (hc127 : ∀ i : Nat, i < n → cd i < 127) (htl : ∀ i : Nat, i < 20 → S 6 i = nI (tl i)) (htl8 : ∀ i : Nat, i < 20 → tl i ≤ 8) (hm20 : mm < 20) (hbT : bT cd n = true) (hra : ¬ pRA S tl (rTu U cd n) (ntT cd n U) mm = nI 0) : RWx l yL_call wsL_call 15 G T sz (oC T (w, q, qz, h, qs, t, gr, u, tr, oc) (Sw, S, Z, Sh, Hs, X, Gg, U, K, O)) [.ref (w 0), .int (nI 0), .int (nI mm), .int (nI ee)] (-103) (oC T (w, q, qz, h, qs, t, gr, u, tr, oc) (Sw, S, Z, Sh, Hs, X, gGr Gg cd n 4 false, rTu U cd n, gTO K S tl (ntT cd n U), O)) := by
  refine Met.ofW (cc := cL_call) (maxL := 4) (ret := (some .int)) (by decide) rfl ?_
  intro p e s m args below meth c s₁ B hml hv
  obtain ⟨ha, ⟨⟨hsz, hP, hK, hD0, hE0⟩, hC⟩, hN9⟩ := hv
  have hx := B.exec
  have hb := B.bytes
  have hr := B.returns
  have hlocks := B.notSynchronized
  have hts := atoms_spec (ws := wsL_call) B.pre
  have hown : s.vm.findClass RL = some m.cls := findClass_of_methodNamed B.named
  have cx : CallFix p m c cL_call 4 s args wsL_call RL := ⟨hx, hb, hml, hown, hts⟩
  subst hsz
  have hD := hD0.self (sz := s.heap.size)
  generalize hAe : va_A (oC T (w, q, qz, h, qs, t, gr, u, tr, oc) (Sw, S, Z, Sh, Hs, X, Gg, U, K, O)) s.heap.size = A at hD hE0 ⊢
  have hE : gE A s s.heap := hE0
  have hA : ∀ q : Nat, s.heap.size ≤ q → A q := fun q h => by rw [← hAe]; exact Or.inr h
  have hS : va_S A s.heap s.heap [] := va_S.rf
  refine w_entry ha (Nat.le_of_ble_eq_true rfl) (fun ls hl => ?_)
  refine w_q (fun Q0 hQ => ?_)
  have hl : lv_has ls 4 [(0, .ref (w 0)), (1, .int (nI 0)), (2, .int (nI mm)), (3, .int (nI ee))] := hl
  refine w_h (fun H locs hHe hLe => ?_)
  have hP : va_P G vwCl (oC T (w, q, qz, h, qs, t, gr, u, tr, oc) (Sw, S, Z, Sh, Hs, X, Gg, U, K, O)) H := by rw [hHe]; exact hP
  have hS : va_S A s.heap H locs := by rw [hHe, hLe]; exact hS
  refine lv_iload_n hx hb dL_call_0 rfl (lv_at hl 1 rfl) ?_
  refine n_tab (a := 0) (off := 47) (tgt := 48) hx hb (by decide) dL_call_1 (by decide) (by decide) rfl (by decide) ?_
  refine lv_aload_n hx hb dL_call_48 rfl (lv_at hl 0 rfl) ?_
  refine lv_iload_n hx hb dL_call_49 rfl (lv_at hl 2 rfl) ?_
  refine k_lxS (As := [.ref (w 0), .int (nI mm)]) (rest := []) (wc := oC T (w, q, qz, h, qs, t, gr, u, tr, oc) (Sw, S, Z, Sh, Hs, X, Gg, U, K, O)) (wr := []) (w1 := oC T (w, q, qz, h, qs, t, gr, u, tr, oc) (Sw, S, Z, Sh, Hs, X, gGr Gg cd n 4 false, rTu U cd n, gTO K S tl (ntT cd n U), O)) (d := 14) (v := -103) cx (c_L_teach_t3 l hst G T H.size w q qz h qs t gr u tr oc Sw S Z Sh Hs X Gg U K O n cd tl mm hlen hn60 hcd hc127 htl htl8 hm20 hbT hra) (vx_cwSW 2 hts gL_call_L_teach rfl rfl rfl (by decide +kernel) ⟨Nat.le_of_ble_eq_true rfl, Nat.le_of_ble_eq_true rfl⟩) (kN_full hP hD hS hA hE hK) hC hN9 rfl hl.1 rfl (Nat.le_of_ble_eq_true rfl) dL_call_50 ⟨Nat.le_of_ble_eq_true rfl, Nat.le_of_ble_eq_true rfl⟩ (fun H locs hP hD hS hz => ?_)
  subst hQ
  exact e_rwi hx hb hr hlocks hS rfl hP hD dL_call_53
set_option maxHeartbeats 4000000 in
set_option maxRecDepth 100000 in
theorem c_L_call_1n (l : Launch) (hst : l.stackTraces = false) (G : va_G) (T : Nat → ClassId) (sz : Nat) (w : Nat → Nat) (q : Nat → Nat) (qz : Nat → Nat) (h : Nat → Nat) (qs : Nat → Nat → Nat) (t : Nat → Nat) (gr : Nat → Nat) (u : Nat → Nat) (tr : Nat → Nat) (oc : Nat → Nat) (Sw : Nat → Nat → Int32) (S : Nat → Nat → Int32) (Z : Nat → Nat → Int32) (Sh : Nat → Nat → Int32) (Hs : Nat → Nat → Nat → Int32) (X : Nat → Nat → Int32) (Gg : Nat → Nat → Int32) (U : Nat → Nat → Int32) (K : Nat → Nat → Int32) (O : Nat → Nat → Int32) (rr : Nat) (mm : Nat) (hr6 : rr < 6) (hm20 : mm < 20) (hwhy : ¬ pWhy S rr mm = 0) : RWx l yL_call wsL_call 15 G T sz (oC T (w, q, qz, h, qs, t, gr, u, tr, oc) (Sw, S, Z, Sh, Hs, X, Gg, U, K, O)) [.ref (w 0), .int (nI 1), .int (nI rr), .int (nI mm)] (-103) (oC T (w, q, qz, h, qs, t, gr, u, tr, oc) (Sw, S, Z, Sh, Hs, X, Gg, U, K, O)) := by
  refine Met.ofW (cc := cL_call) (maxL := 4) (ret := (some .int)) (by decide) rfl ?_
  intro p e s m args below meth c s₁ B hml hv
  obtain ⟨ha, ⟨⟨hsz, hP, hK, hD0, hE0⟩, hC⟩, hN9⟩ := hv
  have hx := B.exec
  have hb := B.bytes
  have hr := B.returns
  have hlocks := B.notSynchronized
  have hts := atoms_spec (ws := wsL_call) B.pre
  have hown : s.vm.findClass RL = some m.cls := findClass_of_methodNamed B.named
  have cx : CallFix p m c cL_call 4 s args wsL_call RL := ⟨hx, hb, hml, hown, hts⟩
  subst hsz
  have hD := hD0.self (sz := s.heap.size)
  generalize hAe : va_A (oC T (w, q, qz, h, qs, t, gr, u, tr, oc) (Sw, S, Z, Sh, Hs, X, Gg, U, K, O)) s.heap.size = A at hD hE0 ⊢
  have hE : gE A s s.heap := hE0
  have hA : ∀ q : Nat, s.heap.size ≤ q → A q := fun q h => by rw [← hAe]; exact Or.inr h
  have hS : va_S A s.heap s.heap [] := va_S.rf
  refine w_entry ha (Nat.le_of_ble_eq_true rfl) (fun ls hl => ?_)
  refine w_q (fun Q0 hQ => ?_)
  have hl : lv_has ls 4 [(0, .ref (w 0)), (1, .int (nI 1)), (2, .int (nI rr)), (3, .int (nI mm))] := hl
  refine w_h (fun H locs hHe hLe => ?_)
  have hP : va_P G vwCl (oC T (w, q, qz, h, qs, t, gr, u, tr, oc) (Sw, S, Z, Sh, Hs, X, Gg, U, K, O)) H := by rw [hHe]; exact hP
  have hS : va_S A s.heap H locs := by rw [hHe, hLe]; exact hS
  refine lv_iload_n hx hb dL_call_0 rfl (lv_at hl 1 rfl) ?_
  refine n_tab (a := 1) (off := 53) (tgt := 54) hx hb (by decide) dL_call_1 (by decide) (by decide) rfl (by decide) ?_
  refine lv_aload_n hx hb dL_call_54 rfl (lv_at hl 0 rfl) ?_
  refine lv_iload_n hx hb dL_call_55 rfl (lv_at hl 2 rfl) ?_
  refine lv_iload_n hx hb dL_call_56 rfl (lv_at hl 3 rfl) ?_
  refine k_lxS (As := [.ref (w 0), .int (nI rr), .int (nI mm)]) (rest := []) (wc := oC T (w, q, qz, h, qs, t, gr, u, tr, oc) (Sw, S, Z, Sh, Hs, X, Gg, U, K, O)) (wr := []) (w1 := oC T (w, q, qz, h, qs, t, gr, u, tr, oc) (Sw, S, Z, Sh, Hs, X, Gg, U, K, O)) (d := 8) (v := -103) cx (c_L_whistle_t3 l hst G T H.size w q qz h qs t gr u tr oc Sw S Z Sh Hs X Gg U K O rr mm hr6 hm20 hwhy) (vx_cwSW 3 hts gL_call_L_whistle rfl rfl rfl (by decide +kernel) ⟨Nat.le_of_ble_eq_true rfl, Nat.le_of_ble_eq_true rfl⟩) (kN_full hP hD hS hA hE hK) hC hN9 rfl hl.1 rfl (Nat.le_of_ble_eq_true rfl) dL_call_57 ⟨Nat.le_of_ble_eq_true rfl, Nat.le_of_ble_eq_true rfl⟩ (fun H locs hP hD hS hz => ?_)
  subst hQ
  exact e_rwi hx hb hr hlocks hS rfl hP hD dL_call_60
