/-! the law's wrappers, on -/
set_option maxHeartbeats 4000000 in
set_option maxRecDepth 100000 in
theorem c_L_whistle (l : Launch) (hst : l.stackTraces = false) (G : va_G) (T : Nat → ClassId) (sz ao : Nat) (f : Nat → Int64) (w : Nat → Nat) (q : Nat → Nat) (qz : Nat → Nat) (h : Nat → Nat) (qs : Nat → Nat → Nat) (t : Nat → Nat) (gr : Nat → Nat) (u : Nat → Nat) (tr : Nat → Nat) (oc : Nat → Nat) (Sw : Nat → Nat → Int32) (S : Nat → Nat → Int32) (Z : Nat → Nat → Int32) (Sh : Nat → Nat → Int32) (Hs : Nat → Nat → Nat → Int32) (X : Nat → Nat → Int32) (Gg : Nat → Nat → Int32) (U : Nat → Nat → Int32) (K : Nat → Nat → Int32) (O : Nat → Nat → Int32) (o : Nat) (n : Nat) (rr : Nat) (mm : Nat) (ho : Sh 0 1 = nI o) (hn : Sh 0 2 = nI n) (ho6 : o < 6) (hn6 : n ≤ 6) (hr6 : rr < 6) (hm20 : mm < 20) (hwhy : pWhy S rr mm = 0) : RWx l yL_whistle wsL_whistle 7 G T sz ([(ao, .inl (T 3, 1, .inr (.inl f)))] ++ oC T (w, q, qz, h, qs, t, gr, u, tr, oc) (Sw, S, Z, Sh, Hs, X, Gg, U, K, O)) [.ref (w 0), .int (nI rr), .int (nI mm), .ref ao] (nI 0) ([(ao, .inl (T 3, 1, .inr (.inl (vp_updL f 0 ((pBC (pUn S rr))).toInt64))))] ++ oC T (w, q, qz, h, qs, t, gr, u, tr, oc) (Sw, pRem S (pFor O S rr mm) rr mm, Z, sc (sc Sh 1 (nI (hPo o n))) 2 (nI (hPn n)), updS Hs (hPi o n) S, X, Gg, U, K, pFor O S rr mm)) := by
  refine met_vx (vx_ofWH (cc := cL_whistle) (maxL := 5) (ret := (some .int)) (by decide) rfl ?_)
  intro p e s m args below meth c s₁ B hml hv
  obtain ⟨ha, ⟨⟨hsz, hP, hK, hD0, hE0⟩, hC⟩, hN9⟩ := hv
  have hx := B.exec
  have hb := B.bytes
  have hr := B.returns
  have hlocks := B.notSynchronized
  have hts := atoms_spec (ws := wsL_whistle) B.pre
  have htab := vx_table (x := yL_whistle) B (hts (.codeWith yL_whistle cL_whistle 5 (some .int) [(0, 10, 13, 13), (0, 10, 17, 17)]) List.mem_cons_self)
  have hown : s.vm.findClass RL = some m.cls := findClass_of_methodNamed B.named
  have cx : CallFix p m c cL_whistle 5 s args wsL_whistle RL := ⟨hx, hb, hml, hown, hts⟩
  subst hsz
  have hD := hD0.self (sz := s.heap.size)
  generalize hAe : va_A ([(ao, .inl (T 3, 1, .inr (.inl f)))] ++ oC T (w, q, qz, h, qs, t, gr, u, tr, oc) (Sw, S, Z, Sh, Hs, X, Gg, U, K, O)) s.heap.size = A at hD hE0 ⊢
  have hE : gE A s s.heap := hE0
  have hA : ∀ q : Nat, s.heap.size ≤ q → A q := fun q h => by rw [← hAe]; exact Or.inr h
  have hS : va_S A s.heap s.heap [] := va_S.rf
  refine w_entry ha (Nat.le_of_ble_eq_true rfl) (fun ls hl => ?_)
  refine w_q (fun Q0 hQ => ?_)
  have hl : lv_has ls 5 [(0, .ref (w 0)), (1, .int (nI rr)), (2, .int (nI mm)), (3, .ref ao)] := hl
  refine w_h (fun H locs hHe hLe => ?_)
  have hP : va_P G vwCl ([(ao, .inl (T 3, 1, .inr (.inl f)))] ++ oC T (w, q, qz, h, qs, t, gr, u, tr, oc) (Sw, S, Z, Sh, Hs, X, Gg, U, K, O)) H := by rw [hHe]; exact hP
  have hS : va_S A s.heap H locs := by rw [hHe, hLe]; exact hS
  refine lv_aload_n hx hb dL_whistle_0 rfl (lv_at hl 3 rfl) ?_
  refine n_iconst hx hb 0 dL_whistle_1 (by decide) ?_
  refine lv_aload_n hx hb dL_whistle_2 rfl (lv_at hl 0 rfl) ?_
  refine lv_iload_n hx hb dL_whistle_3 rfl (lv_at hl 1 rfl) ?_
  refine lv_iload_n hx hb dL_whistle_4 rfl (lv_at hl 2 rfl) ?_
  refine k_rwV (As := [.int (nI rr), .int (nI mm)]) (rest := [.int (nI 0), .ref ao]) (wc := [(ao, .inl (T 3, 1, .inr (.inl f)))] ++ oC T (w, q, qz, h, qs, t, gr, u, tr, oc) (Sw, S, Z, Sh, Hs, X, Gg, U, K, O)) (wr := []) (w1 := [(ao, .inl (T 3, 1, .inr (.inl f)))] ++ oC T (w, q, qz, h, qs, t, gr, u, tr, oc) (Sw, pRem S (pFor O S rr mm) rr mm, Z, sc (sc Sh 1 (nI (hPo o n))) 2 (nI (hPn n)), updS Hs (hPi o n) S, X, Gg, U, K, pFor O S rr mm)) (d := 6) (mc := 0) (ms := 0) (v := pBC (pUn S rr)) cx (RWi.fr (w_X7_whistle l G T H.size w q qz h qs t gr u tr oc Sw S Z Sh Hs X Gg U K O o n rr mm ho hn ho6 hn6 hr6 hm20 hwhy) (Fr.head [(ao, .inl (T 3, 1, .inr (.inl f)))] (oC T (w, q, qz, h, qs, t, gr, u, tr, oc) (Sw, S, Z, Sh, Hs, X, Gg, U, K, O)) (oC T (w, q, qz, h, qs, t, gr, u, tr, oc) (Sw, pRem S (pFor O S rr mm) rr mm, Z, sc (sc Sh 1 (nI (hPo o n))) 2 (nI (hPn n)), updS Hs (hPi o n) S, X, Gg, U, K, pFor O S rr mm)))) (cwV 2 hts gL_whistle_X7_whistle rfl rfl rfl (by decide +kernel) ⟨Nat.le_of_ble_eq_true rfl, Nat.le_of_ble_eq_true rfl⟩) (kN_full hP hD hS hA hE hK) (va_recv hK hP (ci := 7) (q0 := 1) rfl rfl) rfl hl.1 rfl (Nat.le_of_ble_eq_true rfl) dL_whistle_5 ⟨Nat.le_of_ble_eq_true rfl, Nat.le_of_ble_eq_true rfl⟩ (fun H locs hP hD hS hz => ?_)
  have hP : va_P G vwCl ([(ao, .inl (T 3, 1, .inr (.inl f)))] ++ oC T (w, q, qz, h, qs, t, gr, u, tr, oc) (Sw, pRem S (pFor O S rr mm) rr mm, Z, sc (sc Sh 1 (nI (hPo o n))) 2 (nI (hPn n)), updS Hs (hPi o n) S, X, Gg, U, K, pFor O S rr mm)) H := hP
  have hD : va_D A ([(ao, .inl (T 3, 1, .inr (.inl f)))] ++ oC T (w, q, qz, h, qs, t, gr, u, tr, oc) (Sw, pRem S (pFor O S rr mm) rr mm, Z, sc (sc Sh 1 (nI (hPo o n))) 2 (nI (hPn n)), updS Hs (hPi o n) S, X, Gg, U, K, pFor O S rr mm)) := hD
  refine lv_i2l (v := (pBC (pUn S rr)).toInt64) hx hb dL_whistle_8 rfl ?_
  refine va_last hx hb hK hP hD hS 0 3 rfl rfl (vp_in_nI (show 0 < 1 by decide) (by decide)) dL_whistle_9 (fun H locs hP hD hS => ?_)
  have hP : va_P G vwCl ([(ao, .inl (T 3, 1, .inr (.inl (vp_updL f 0 ((pBC (pUn S rr))).toInt64))))] ++ oC T (w, q, qz, h, qs, t, gr, u, tr, oc) (Sw, pRem S (pFor O S rr mm) rr mm, Z, sc (sc Sh 1 (nI (hPo o n))) 2 (nI (hPn n)), updS Hs (hPi o n) S, X, Gg, U, K, pFor O S rr mm)) H := hP
  have hD : va_D A ([(ao, .inl (T 3, 1, .inr (.inl (vp_updL f 0 ((pBC (pUn S rr))).toInt64))))] ++ oC T (w, q, qz, h, qs, t, gr, u, tr, oc) (Sw, pRem S (pFor O S rr mm) rr mm, Z, sc (sc Sh 1 (nI (hPo o n))) 2 (nI (hPn n)), updS Hs (hPi o n) S, X, Gg, U, K, pFor O S rr mm)) := hD
  refine lv_goto (tgt := 21) hx hb dL_whistle_10 (by decide) ?_
  refine n_iconst hx hb 0 dL_whistle_21 (by decide) ?_
  subst hQ
  exact vx_ret (W.widen (k := 1) (n := 6) (by decide) (by decide) (e_rwi hx hb hr hlocks hS rfl hP hD dL_whistle_22))
set_option maxHeartbeats 4000000 in
set_option maxRecDepth 100000 in
theorem c_L_whistle_t (l : Launch) (hst : l.stackTraces = false) (G : va_G) (T : Nat → ClassId) (sz ao : Nat) (f : Nat → Int64) (w : Nat → Nat) (q : Nat → Nat) (qz : Nat → Nat) (h : Nat → Nat) (qs : Nat → Nat → Nat) (t : Nat → Nat) (gr : Nat → Nat) (u : Nat → Nat) (tr : Nat → Nat) (oc : Nat → Nat) (Sw : Nat → Nat → Int32) (S : Nat → Nat → Int32) (Z : Nat → Nat → Int32) (Sh : Nat → Nat → Int32) (Hs : Nat → Nat → Nat → Int32) (X : Nat → Nat → Int32) (Gg : Nat → Nat → Int32) (U : Nat → Nat → Int32) (K : Nat → Nat → Int32) (O : Nat → Nat → Int32) (x : Int32) (y : Int32) (hbx : pBt x 6 = false) : RWx l yL_whistle wsL_whistle 8 G T sz ([(ao, .inl (T 3, 1, .inr (.inl f)))] ++ oC T (w, q, qz, h, qs, t, gr, u, tr, oc) (Sw, S, Z, Sh, Hs, X, Gg, U, K, O)) [.ref (w 0), .int x, .int y, .ref ao] (nI 1) ([(ao, .inl (T 3, 1, .inr (.inl f)))] ++ oC T (w, q, qz, h, qs, t, gr, u, tr, oc) (Sw, S, Z, Sh, Hs, X, Gg, U, K, O)) := by
  refine met_vx (vx_ofWH (cc := cL_whistle) (maxL := 5) (ret := (some .int)) (by decide) rfl ?_)
  intro p e s m args below meth c s₁ B hml hv
  obtain ⟨ha, ⟨⟨hsz, hP, hK, hD0, hE0⟩, hC⟩, hN9⟩ := hv
  have hx := B.exec
  have hb := B.bytes
  have hr := B.returns
  have hlocks := B.notSynchronized
  have hts := atoms_spec (ws := wsL_whistle) B.pre
  have htab := vx_table (x := yL_whistle) B (hts (.codeWith yL_whistle cL_whistle 5 (some .int) [(0, 10, 13, 13), (0, 10, 17, 17)]) List.mem_cons_self)
  have hown : s.vm.findClass RL = some m.cls := findClass_of_methodNamed B.named
  have cx : CallFix p m c cL_whistle 5 s args wsL_whistle RL := ⟨hx, hb, hml, hown, hts⟩
  subst hsz
  have hD := hD0.self (sz := s.heap.size)
  generalize hAe : va_A ([(ao, .inl (T 3, 1, .inr (.inl f)))] ++ oC T (w, q, qz, h, qs, t, gr, u, tr, oc) (Sw, S, Z, Sh, Hs, X, Gg, U, K, O)) s.heap.size = A at hD hE0 ⊢
  have hE : gE A s s.heap := hE0
  have hA : ∀ q : Nat, s.heap.size ≤ q → A q := fun q h => by rw [← hAe]; exact Or.inr h
  have hS : va_S A s.heap s.heap [] := va_S.rf
  refine w_entry ha (Nat.le_of_ble_eq_true rfl) (fun ls hl => ?_)
  refine w_q (fun Q0 hQ => ?_)
  have hl : lv_has ls 5 [(0, .ref (w 0)), (1, .int x), (2, .int y), (3, .ref ao)] := hl
  refine w_h (fun H locs hHe hLe => ?_)
  have hP : va_P G vwCl ([(ao, .inl (T 3, 1, .inr (.inl f)))] ++ oC T (w, q, qz, h, qs, t, gr, u, tr, oc) (Sw, S, Z, Sh, Hs, X, Gg, U, K, O)) H := by rw [hHe]; exact hP
  have hS : va_S A s.heap H locs := by rw [hHe, hLe]; exact hS
  refine lv_aload_n hx hb dL_whistle_0 rfl (lv_at hl 3 rfl) ?_
  refine n_iconst hx hb 0 dL_whistle_1 (by decide) ?_
  refine lv_aload_n hx hb dL_whistle_2 rfl (lv_at hl 0 rfl) ?_
  refine lv_iload_n hx hb dL_whistle_3 rfl (lv_at hl 1 rfl) ?_
  refine lv_iload_n hx hb dL_whistle_4 rfl (lv_at hl 2 rfl) ?_
  refine k_rxV (As := [.int x, .int y]) (rest := [.int (nI 0), .ref ao]) (wc := [(ao, .inl (T 3, 1, .inr (.inl f)))] ++ oC T (w, q, qz, h, qs, t, gr, u, tr, oc) (Sw, S, Z, Sh, Hs, X, Gg, U, K, O)) (wr := []) (w1 := [(ao, .inl (T 3, 1, .inr (.inl f)))] ++ oC T (w, q, qz, h, qs, t, gr, u, tr, oc) (Sw, S, Z, Sh, Hs, X, Gg, U, K, O)) (d := 7) cx (RX.fr (w_X7_whistle_t l hst G T H.size w q qz h qs t gr u tr oc Sw S Z Sh Hs X Gg U K O x y hbx) (Fr.head [(ao, .inl (T 3, 1, .inr (.inl f)))] (oC T (w, q, qz, h, qs, t, gr, u, tr, oc) (Sw, S, Z, Sh, Hs, X, Gg, U, K, O)) (oC T (w, q, qz, h, qs, t, gr, u, tr, oc) (Sw, S, Z, Sh, Hs, X, Gg, U, K, O)))) (cwV 2 hts gL_whistle_X7_whistle rfl rfl rfl (by decide +kernel) ⟨Nat.le_of_ble_eq_true rfl, Nat.le_of_ble_eq_true rfl⟩) (kN_full hP hD hS hA hE hK) hC (va_recv hK hP (ci := 7) (q0 := 1) rfl rfl) rfl hl.1 rfl (Nat.le_of_ble_eq_true rfl) dL_whistle_5 ⟨Nat.le_of_ble_eq_true rfl, Nat.le_of_ble_eq_true rfl⟩ (fun E9 ce q9 H locs he hP hD hS h1 h2 h3 => ?_) (fun v H locs he => by cases he)
  cases he
  refine vx_catch (own := RL) (name := "java/lang/IndexOutOfBoundsException") (E := "java/lang/IndexOutOfBoundsException") hown [] ⟨0, 10, 13, 13⟩ [⟨0, 10, 17, 17⟩] (htab.trans rfl) (fun _ h9 => by cases h9) (by decide) (by decide) (hts (.classLink RL 13 "java/lang/IndexOutOfBoundsException") (by decide +kernel)) (va_Nw.use rfl (hC.1 "java/lang/IndexOutOfBoundsException" (by decide))) h1 h2 h3 ?_
  refine lv_astore (lv' := [(4, .ref q9), (0, .ref (w 0)), (1, .int x), (2, .int y), (3, .ref ao)]) hx hb dL_whistle_13 hl (by decide) rfl (fun ls hl => ?_)
  refine n_iconst hx hb 1 dL_whistle_15 (by decide) ?_
  subst hQ
  exact vx_ret (W.widen (k := 1) (n := 6) (by decide) (by decide) (e_rwi hx hb hr hlocks hS rfl hP hD dL_whistle_16))
set_option maxHeartbeats 4000000 in
set_option maxRecDepth 100000 in
theorem c_L_whistle_t2 (l : Launch) (hst : l.stackTraces = false) (G : va_G) (T : Nat → ClassId) (sz ao : Nat) (f : Nat → Int64) (w : Nat → Nat) (q : Nat → Nat) (qz : Nat → Nat) (h : Nat → Nat) (qs : Nat → Nat → Nat) (t : Nat → Nat) (gr : Nat → Nat) (u : Nat → Nat) (tr : Nat → Nat) (oc : Nat → Nat) (Sw : Nat → Nat → Int32) (S : Nat → Nat → Int32) (Z : Nat → Nat → Int32) (Sh : Nat → Nat → Int32) (Hs : Nat → Nat → Nat → Int32) (X : Nat → Nat → Int32) (Gg : Nat → Nat → Int32) (U : Nat → Nat → Int32) (K : Nat → Nat → Int32) (O : Nat → Nat → Int32) (rr : Nat) (y : Int32) (hr6 : rr < 6) (hby : pBt y 20 = false) : RWx l yL_whistle wsL_whistle 8 G T sz ([(ao, .inl (T 3, 1, .inr (.inl f)))] ++ oC T (w, q, qz, h, qs, t, gr, u, tr, oc) (Sw, S, Z, Sh, Hs, X, Gg, U, K, O)) [.ref (w 0), .int (nI rr), .int y, .ref ao] (nI 1) ([(ao, .inl (T 3, 1, .inr (.inl f)))] ++ oC T (w, q, qz, h, qs, t, gr, u, tr, oc) (Sw, S, Z, Sh, Hs, X, Gg, U, K, O)) := by
  refine met_vx (vx_ofWH (cc := cL_whistle) (maxL := 5) (ret := (some .int)) (by decide) rfl ?_)
  intro p e s m args below meth c s₁ B hml hv
  obtain ⟨ha, ⟨⟨hsz, hP, hK, hD0, hE0⟩, hC⟩, hN9⟩ := hv
  have hx := B.exec
  have hb := B.bytes
  have hr := B.returns
  have hlocks := B.notSynchronized
  have hts := atoms_spec (ws := wsL_whistle) B.pre
  have htab := vx_table (x := yL_whistle) B (hts (.codeWith yL_whistle cL_whistle 5 (some .int) [(0, 10, 13, 13), (0, 10, 17, 17)]) List.mem_cons_self)
  have hown : s.vm.findClass RL = some m.cls := findClass_of_methodNamed B.named
  have cx : CallFix p m c cL_whistle 5 s args wsL_whistle RL := ⟨hx, hb, hml, hown, hts⟩
  subst hsz
  have hD := hD0.self (sz := s.heap.size)
  generalize hAe : va_A ([(ao, .inl (T 3, 1, .inr (.inl f)))] ++ oC T (w, q, qz, h, qs, t, gr, u, tr, oc) (Sw, S, Z, Sh, Hs, X, Gg, U, K, O)) s.heap.size = A at hD hE0 ⊢
  have hE : gE A s s.heap := hE0
  have hA : ∀ q : Nat, s.heap.size ≤ q → A q := fun q h => by rw [← hAe]; exact Or.inr h
  have hS : va_S A s.heap s.heap [] := va_S.rf
  refine w_entry ha (Nat.le_of_ble_eq_true rfl) (fun ls hl => ?_)
  refine w_q (fun Q0 hQ => ?_)
  have hl : lv_has ls 5 [(0, .ref (w 0)), (1, .int (nI rr)), (2, .int y), (3, .ref ao)] := hl
  refine w_h (fun H locs hHe hLe => ?_)
  have hP : va_P G vwCl ([(ao, .inl (T 3, 1, .inr (.inl f)))] ++ oC T (w, q, qz, h, qs, t, gr, u, tr, oc) (Sw, S, Z, Sh, Hs, X, Gg, U, K, O)) H := by rw [hHe]; exact hP
  have hS : va_S A s.heap H locs := by rw [hHe, hLe]; exact hS
  refine lv_aload_n hx hb dL_whistle_0 rfl (lv_at hl 3 rfl) ?_
  refine n_iconst hx hb 0 dL_whistle_1 (by decide) ?_
  refine lv_aload_n hx hb dL_whistle_2 rfl (lv_at hl 0 rfl) ?_
  refine lv_iload_n hx hb dL_whistle_3 rfl (lv_at hl 1 rfl) ?_
  refine lv_iload_n hx hb dL_whistle_4 rfl (lv_at hl 2 rfl) ?_
  refine k_rxV (As := [.int (nI rr), .int y]) (rest := [.int (nI 0), .ref ao]) (wc := [(ao, .inl (T 3, 1, .inr (.inl f)))] ++ oC T (w, q, qz, h, qs, t, gr, u, tr, oc) (Sw, S, Z, Sh, Hs, X, Gg, U, K, O)) (wr := []) (w1 := [(ao, .inl (T 3, 1, .inr (.inl f)))] ++ oC T (w, q, qz, h, qs, t, gr, u, tr, oc) (Sw, S, Z, Sh, Hs, X, Gg, U, K, O)) (d := 7) cx (RX.fr (w_X7_whistle_t2 l hst G T H.size w q qz h qs t gr u tr oc Sw S Z Sh Hs X Gg U K O rr y hr6 hby) (Fr.head [(ao, .inl (T 3, 1, .inr (.inl f)))] (oC T (w, q, qz, h, qs, t, gr, u, tr, oc) (Sw, S, Z, Sh, Hs, X, Gg, U, K, O)) (oC T (w, q, qz, h, qs, t, gr, u, tr, oc) (Sw, S, Z, Sh, Hs, X, Gg, U, K, O)))) (cwV 2 hts gL_whistle_X7_whistle rfl rfl rfl (by decide +kernel) ⟨Nat.le_of_ble_eq_true rfl, Nat.le_of_ble_eq_true rfl⟩) (kN_full hP hD hS hA hE hK) hC (va_recv hK hP (ci := 7) (q0 := 1) rfl rfl) rfl hl.1 rfl (Nat.le_of_ble_eq_true rfl) dL_whistle_5 ⟨Nat.le_of_ble_eq_true rfl, Nat.le_of_ble_eq_true rfl⟩ (fun E9 ce q9 H locs he hP hD hS h1 h2 h3 => ?_) (fun v H locs he => by cases he)
  cases he
  refine vx_catch (own := RL) (name := "java/lang/IndexOutOfBoundsException") (E := "java/lang/IndexOutOfBoundsException") hown [] ⟨0, 10, 13, 13⟩ [⟨0, 10, 17, 17⟩] (htab.trans rfl) (fun _ h9 => by cases h9) (by decide) (by decide) (hts (.classLink RL 13 "java/lang/IndexOutOfBoundsException") (by decide +kernel)) (va_Nw.use rfl (hC.1 "java/lang/IndexOutOfBoundsException" (by decide))) h1 h2 h3 ?_
  refine lv_astore (lv' := [(4, .ref q9), (0, .ref (w 0)), (1, .int (nI rr)), (2, .int y), (3, .ref ao)]) hx hb dL_whistle_13 hl (by decide) rfl (fun ls hl => ?_)
  refine n_iconst hx hb 1 dL_whistle_15 (by decide) ?_
  subst hQ
  exact vx_ret (W.widen (k := 1) (n := 6) (by decide) (by decide) (e_rwi hx hb hr hlocks hS rfl hP hD dL_whistle_16))
set_option maxHeartbeats 4000000 in
set_option maxRecDepth 100000 in
theorem c_L_whistle_t3 (l : Launch) (hst : l.stackTraces = false) (G : va_G) (T : Nat → ClassId) (sz ao : Nat) (f : Nat → Int64) (w : Nat → Nat) (q : Nat → Nat) (qz : Nat → Nat) (h : Nat → Nat) (qs : Nat → Nat → Nat) (t : Nat → Nat) (gr : Nat → Nat) (u : Nat → Nat) (tr : Nat → Nat) (oc : Nat → Nat) (Sw : Nat → Nat → Int32) (S : Nat → Nat → Int32) (Z : Nat → Nat → Int32) (Sh : Nat → Nat → Int32) (Hs : Nat → Nat → Nat → Int32) (X : Nat → Nat → Int32) (Gg : Nat → Nat → Int32) (U : Nat → Nat → Int32) (K : Nat → Nat → Int32) (O : Nat → Nat → Int32) (rr : Nat) (mm : Nat) (hr6 : rr < 6) (hm20 : mm < 20) (hwhy : ¬ pWhy S rr mm = 0) : RWx l yL_whistle wsL_whistle 8 G T sz ([(ao, .inl (T 3, 1, .inr (.inl f)))] ++ oC T (w, q, qz, h, qs, t, gr, u, tr, oc) (Sw, S, Z, Sh, Hs, X, Gg, U, K, O)) [.ref (w 0), .int (nI rr), .int (nI mm), .ref ao] (nI 2) ([(ao, .inl (T 3, 1, .inr (.inl f)))] ++ oC T (w, q, qz, h, qs, t, gr, u, tr, oc) (Sw, S, Z, Sh, Hs, X, Gg, U, K, O)) := by
  refine met_vx (vx_ofWH (cc := cL_whistle) (maxL := 5) (ret := (some .int)) (by decide) rfl ?_)
  intro p e s m args below meth c s₁ B hml hv
  obtain ⟨ha, ⟨⟨hsz, hP, hK, hD0, hE0⟩, hC⟩, hN9⟩ := hv
  have hx := B.exec
  have hb := B.bytes
  have hr := B.returns
  have hlocks := B.notSynchronized
  have hts := atoms_spec (ws := wsL_whistle) B.pre
  have htab := vx_table (x := yL_whistle) B (hts (.codeWith yL_whistle cL_whistle 5 (some .int) [(0, 10, 13, 13), (0, 10, 17, 17)]) List.mem_cons_self)
  have hown : s.vm.findClass RL = some m.cls := findClass_of_methodNamed B.named
  have cx : CallFix p m c cL_whistle 5 s args wsL_whistle RL := ⟨hx, hb, hml, hown, hts⟩
  subst hsz
  have hD := hD0.self (sz := s.heap.size)
  generalize hAe : va_A ([(ao, .inl (T 3, 1, .inr (.inl f)))] ++ oC T (w, q, qz, h, qs, t, gr, u, tr, oc) (Sw, S, Z, Sh, Hs, X, Gg, U, K, O)) s.heap.size = A at hD hE0 ⊢
  have hE : gE A s s.heap := hE0
  have hA : ∀ q : Nat, s.heap.size ≤ q → A q := fun q h => by rw [← hAe]; exact Or.inr h
  have hS : va_S A s.heap s.heap [] := va_S.rf
  refine w_entry ha (Nat.le_of_ble_eq_true rfl) (fun ls hl => ?_)
  refine w_q (fun Q0 hQ => ?_)
  have hl : lv_has ls 5 [(0, .ref (w 0)), (1, .int (nI rr)), (2, .int (nI mm)), (3, .ref ao)] := hl
  refine w_h (fun H locs hHe hLe => ?_)
  have hP : va_P G vwCl ([(ao, .inl (T 3, 1, .inr (.inl f)))] ++ oC T (w, q, qz, h, qs, t, gr, u, tr, oc) (Sw, S, Z, Sh, Hs, X, Gg, U, K, O)) H := by rw [hHe]; exact hP
  have hS : va_S A s.heap H locs := by rw [hHe, hLe]; exact hS
  refine lv_aload_n hx hb dL_whistle_0 rfl (lv_at hl 3 rfl) ?_
  refine n_iconst hx hb 0 dL_whistle_1 (by decide) ?_
  refine lv_aload_n hx hb dL_whistle_2 rfl (lv_at hl 0 rfl) ?_
  refine lv_iload_n hx hb dL_whistle_3 rfl (lv_at hl 1 rfl) ?_
  refine lv_iload_n hx hb dL_whistle_4 rfl (lv_at hl 2 rfl) ?_
  refine k_rxV (As := [.int (nI rr), .int (nI mm)]) (rest := [.int (nI 0), .ref ao]) (wc := [(ao, .inl (T 3, 1, .inr (.inl f)))] ++ oC T (w, q, qz, h, qs, t, gr, u, tr, oc) (Sw, S, Z, Sh, Hs, X, Gg, U, K, O)) (wr := []) (w1 := [(ao, .inl (T 3, 1, .inr (.inl f)))] ++ oC T (w, q, qz, h, qs, t, gr, u, tr, oc) (Sw, S, Z, Sh, Hs, X, Gg, U, K, O)) (d := 7) cx (RX.fr (w_X7_whistle_t3 l hst G T H.size w q qz h qs t gr u tr oc Sw S Z Sh Hs X Gg U K O rr mm hr6 hm20 hwhy) (Fr.head [(ao, .inl (T 3, 1, .inr (.inl f)))] (oC T (w, q, qz, h, qs, t, gr, u, tr, oc) (Sw, S, Z, Sh, Hs, X, Gg, U, K, O)) (oC T (w, q, qz, h, qs, t, gr, u, tr, oc) (Sw, S, Z, Sh, Hs, X, Gg, U, K, O)))) (cwV 2 hts gL_whistle_X7_whistle rfl rfl rfl (by decide +kernel) ⟨Nat.le_of_ble_eq_true rfl, Nat.le_of_ble_eq_true rfl⟩) (kN_full hP hD hS hA hE hK) hC (va_recv hK hP (ci := 7) (q0 := 1) rfl rfl) rfl hl.1 rfl (Nat.le_of_ble_eq_true rfl) dL_whistle_5 ⟨Nat.le_of_ble_eq_true rfl, Nat.le_of_ble_eq_true rfl⟩ (fun E9 ce q9 H locs he hP hD hS h1 h2 h3 => ?_) (fun v H locs he => by cases he)
  cases he
  refine vx_catch (own := RL) (name := "java/lang/IllegalStateException") (E := "java/lang/IllegalStateException") hown [⟨0, 10, 13, 13⟩] ⟨0, 10, 17, 17⟩ [] (htab.trans rfl) (List.forall_mem_cons.mpr ⟨Or.inr ⟨by decide, "java/lang/IndexOutOfBoundsException", hts (.classLink RL 13 "java/lang/IndexOutOfBoundsException") (by decide +kernel), hN9.2.1⟩, (fun _ h9 => by cases h9)⟩) (by decide) (by decide) (hts (.classLink RL 17 "java/lang/IllegalStateException") (by decide +kernel)) (va_Nw.use rfl (hC.1 "java/lang/IllegalStateException" (by decide))) h1 h2 h3 ?_
  refine lv_astore (lv' := [(4, .ref q9), (0, .ref (w 0)), (1, .int (nI rr)), (2, .int (nI mm)), (3, .ref ao)]) hx hb dL_whistle_17 hl (by decide) rfl (fun ls hl => ?_)
  refine n_iconst hx hb 2 dL_whistle_19 (by decide) ?_
  subst hQ
  exact vx_ret (W.widen (k := 1) (n := 6) (by decide) (by decide) (e_rwi hx hb hr hlocks hS rfl hP hD dL_whistle_20))
set_option maxHeartbeats 4000000 in
set_option maxRecDepth 100000 in
theorem c_L_ifWhistled (l : Launch) (hst : l.stackTraces = false) (G : va_G) (T : Nat → ClassId) (sz ao : Nat) (f : Nat → Int64) (w : Nat → Nat) (q : Nat → Nat) (qz : Nat → Nat) (h : Nat → Nat) (qs : Nat → Nat → Nat) (t : Nat → Nat) (gr : Nat → Nat) (u : Nat → Nat) (tr : Nat → Nat) (oc : Nat → Nat) (Sw : Nat → Nat → Int32) (S : Nat → Nat → Int32) (Z : Nat → Nat → Int32) (Sh : Nat → Nat → Int32) (Hs : Nat → Nat → Nat → Int32) (X : Nat → Nat → Int32) (Gg : Nat → Nat → Int32) (U : Nat → Nat → Int32) (K : Nat → Nat → Int32) (O : Nat → Nat → Int32) (rr : Nat) (mm : Nat) (kk : Nat) (hr6 : rr < 6) (hm20 : mm < 20) (hk9 : kk < 4) : RWx l yL_ifWhistled wsL_ifWhistled 5 G T sz ([(ao, .inl (T 3, 1, .inr (.inl f)))] ++ oC T (w, q, qz, h, qs, t, gr, u, tr, oc) (Sw, S, Z, Sh, Hs, X, Gg, U, K, O)) [.ref (w 0), .int (nI rr), .int (nI mm), .int (nI kk), .ref ao] (nI 0) ([(ao, .inl (T 3, 1, .inr (.inl (vp_updL f 0 ((pIf S rr mm kk)).toInt64))))] ++ oC T (w, q, qz, h, qs, t, gr, u, tr, oc) (Sw, S, Z, Sh, Hs, X, Gg, U, K, pIfO O S rr mm)) := by
  refine met_vx (vx_ofWH (cc := cL_ifWhistled) (maxL := 6) (ret := (some .int)) (by decide) rfl ?_)
  intro p e s m args below meth c s₁ B hml hv
  obtain ⟨ha, ⟨⟨hsz, hP, hK, hD0, hE0⟩, hC⟩, hN9⟩ := hv
  have hx := B.exec
  have hb := B.bytes
  have hr := B.returns
  have hlocks := B.notSynchronized
  have hts := atoms_spec (ws := wsL_ifWhistled) B.pre
  have htab := vx_table (x := yL_ifWhistled) B (hts (.codeWith yL_ifWhistled cL_ifWhistled 6 (some .int) [(0, 12, 15, 13), (0, 12, 19, 15)]) List.mem_cons_self)
  have hown : s.vm.findClass RL = some m.cls := findClass_of_methodNamed B.named
  have cx : CallFix p m c cL_ifWhistled 6 s args wsL_ifWhistled RL := ⟨hx, hb, hml, hown, hts⟩
  subst hsz
  have hD := hD0.self (sz := s.heap.size)
  generalize hAe : va_A ([(ao, .inl (T 3, 1, .inr (.inl f)))] ++ oC T (w, q, qz, h, qs, t, gr, u, tr, oc) (Sw, S, Z, Sh, Hs, X, Gg, U, K, O)) s.heap.size = A at hD hE0 ⊢
  have hE : gE A s s.heap := hE0
  have hA : ∀ q : Nat, s.heap.size ≤ q → A q := fun q h => by rw [← hAe]; exact Or.inr h
  have hS : va_S A s.heap s.heap [] := va_S.rf
  refine w_entry ha (Nat.le_of_ble_eq_true rfl) (fun ls hl => ?_)
  refine w_q (fun Q0 hQ => ?_)
  have hl : lv_has ls 6 [(0, .ref (w 0)), (1, .int (nI rr)), (2, .int (nI mm)), (3, .int (nI kk)), (4, .ref ao)] := hl
  refine w_h (fun H locs hHe hLe => ?_)
  have hP : va_P G vwCl ([(ao, .inl (T 3, 1, .inr (.inl f)))] ++ oC T (w, q, qz, h, qs, t, gr, u, tr, oc) (Sw, S, Z, Sh, Hs, X, Gg, U, K, O)) H := by rw [hHe]; exact hP
  have hS : va_S A s.heap H locs := by rw [hHe, hLe]; exact hS
  refine lv_aload hx hb dL_ifWhistled_0 (lv_at hl 4 rfl) ?_
  refine n_iconst hx hb 0 dL_ifWhistled_2 (by decide) ?_
  refine lv_aload_n hx hb dL_ifWhistled_3 rfl (lv_at hl 0 rfl) ?_
  refine lv_iload_n hx hb dL_ifWhistled_4 rfl (lv_at hl 1 rfl) ?_
  refine lv_iload_n hx hb dL_ifWhistled_5 rfl (lv_at hl 2 rfl) ?_
  refine lv_iload_n hx hb dL_ifWhistled_6 rfl (lv_at hl 3 rfl) ?_
  refine k_rwV (As := [.int (nI rr), .int (nI mm), .int (nI kk)]) (rest := [.int (nI 0), .ref ao]) (wc := [(ao, .inl (T 3, 1, .inr (.inl f)))] ++ oC T (w, q, qz, h, qs, t, gr, u, tr, oc) (Sw, S, Z, Sh, Hs, X, Gg, U, K, O)) (wr := []) (w1 := [(ao, .inl (T 3, 1, .inr (.inl f)))] ++ oC T (w, q, qz, h, qs, t, gr, u, tr, oc) (Sw, S, Z, Sh, Hs, X, Gg, U, K, pIfO O S rr mm)) (d := 4) (mc := 0) (ms := 0) (v := pIf S rr mm kk) cx (RWi.fr (w_X7_ifWhistled l G T H.size w q qz h qs t gr u tr oc Sw S Z Sh Hs X Gg U K O rr mm kk hr6 hm20 hk9) (Fr.head [(ao, .inl (T 3, 1, .inr (.inl f)))] (oC T (w, q, qz, h, qs, t, gr, u, tr, oc) (Sw, S, Z, Sh, Hs, X, Gg, U, K, O)) (oC T (w, q, qz, h, qs, t, gr, u, tr, oc) (Sw, S, Z, Sh, Hs, X, Gg, U, K, pIfO O S rr mm)))) (cwV 3 hts gL_ifWhistled_X7_ifWhistled rfl rfl rfl (by decide +kernel) ⟨Nat.le_of_ble_eq_true rfl, Nat.le_of_ble_eq_true rfl⟩) (kN_full hP hD hS hA hE hK) (va_recv hK hP (ci := 7) (q0 := 1) rfl rfl) rfl hl.1 rfl (Nat.le_of_ble_eq_true rfl) dL_ifWhistled_7 ⟨Nat.le_of_ble_eq_true rfl, Nat.le_of_ble_eq_true rfl⟩ (fun H locs hP hD hS hz => ?_)
  have hP : va_P G vwCl ([(ao, .inl (T 3, 1, .inr (.inl f)))] ++ oC T (w, q, qz, h, qs, t, gr, u, tr, oc) (Sw, S, Z, Sh, Hs, X, Gg, U, K, pIfO O S rr mm)) H := hP
  have hD : va_D A ([(ao, .inl (T 3, 1, .inr (.inl f)))] ++ oC T (w, q, qz, h, qs, t, gr, u, tr, oc) (Sw, S, Z, Sh, Hs, X, Gg, U, K, pIfO O S rr mm)) := hD
  refine lv_i2l (v := (pIf S rr mm kk).toInt64) hx hb dL_ifWhistled_10 rfl ?_
  refine va_last hx hb hK hP hD hS 0 3 rfl rfl (vp_in_nI (show 0 < 1 by decide) (by decide)) dL_ifWhistled_11 (fun H locs hP hD hS => ?_)
  have hP : va_P G vwCl ([(ao, .inl (T 3, 1, .inr (.inl (vp_updL f 0 ((pIf S rr mm kk)).toInt64))))] ++ oC T (w, q, qz, h, qs, t, gr, u, tr, oc) (Sw, S, Z, Sh, Hs, X, Gg, U, K, pIfO O S rr mm)) H := hP
  have hD : va_D A ([(ao, .inl (T 3, 1, .inr (.inl (vp_updL f 0 ((pIf S rr mm kk)).toInt64))))] ++ oC T (w, q, qz, h, qs, t, gr, u, tr, oc) (Sw, S, Z, Sh, Hs, X, Gg, U, K, pIfO O S rr mm)) := hD
  refine lv_goto (tgt := 23) hx hb dL_ifWhistled_12 (by decide) ?_
  refine n_iconst hx hb 0 dL_ifWhistled_23 (by decide) ?_
  subst hQ
  exact vx_ret (W.widen (k := 1) (n := 6) (by decide) (by decide) (e_rwi hx hb hr hlocks hS rfl hP hD dL_ifWhistled_24))
set_option maxHeartbeats 4000000 in
set_option maxRecDepth 100000 in
theorem c_L_ifWhistled_t (l : Launch) (hst : l.stackTraces = false) (G : va_G) (T : Nat → ClassId) (sz ao : Nat) (f : Nat → Int64) (w : Nat → Nat) (q : Nat → Nat) (qz : Nat → Nat) (h : Nat → Nat) (qs : Nat → Nat → Nat) (t : Nat → Nat) (gr : Nat → Nat) (u : Nat → Nat) (tr : Nat → Nat) (oc : Nat → Nat) (Sw : Nat → Nat → Int32) (S : Nat → Nat → Int32) (Z : Nat → Nat → Int32) (Sh : Nat → Nat → Int32) (Hs : Nat → Nat → Nat → Int32) (X : Nat → Nat → Int32) (Gg : Nat → Nat → Int32) (U : Nat → Nat → Int32) (K : Nat → Nat → Int32) (O : Nat → Nat → Int32) (x : Int32) (y : Int32) (z : Int32) (hbx : pBt x 6 = false) : RWx l yL_ifWhistled wsL_ifWhistled 8 G T sz ([(ao, .inl (T 3, 1, .inr (.inl f)))] ++ oC T (w, q, qz, h, qs, t, gr, u, tr, oc) (Sw, S, Z, Sh, Hs, X, Gg, U, K, O)) [.ref (w 0), .int x, .int y, .int z, .ref ao] (nI 1) ([(ao, .inl (T 3, 1, .inr (.inl f)))] ++ oC T (w, q, qz, h, qs, t, gr, u, tr, oc) (Sw, S, Z, Sh, Hs, X, Gg, U, K, O)) := by
  refine met_vx (vx_ofWH (cc := cL_ifWhistled) (maxL := 6) (ret := (some .int)) (by decide) rfl ?_)
  intro p e s m args below meth c s₁ B hml hv
  obtain ⟨ha, ⟨⟨hsz, hP, hK, hD0, hE0⟩, hC⟩, hN9⟩ := hv
  have hx := B.exec
  have hb := B.bytes
  have hr := B.returns
  have hlocks := B.notSynchronized
  have hts := atoms_spec (ws := wsL_ifWhistled) B.pre
  have htab := vx_table (x := yL_ifWhistled) B (hts (.codeWith yL_ifWhistled cL_ifWhistled 6 (some .int) [(0, 12, 15, 13), (0, 12, 19, 15)]) List.mem_cons_self)
  have hown : s.vm.findClass RL = some m.cls := findClass_of_methodNamed B.named
  have cx : CallFix p m c cL_ifWhistled 6 s args wsL_ifWhistled RL := ⟨hx, hb, hml, hown, hts⟩
  subst hsz
  have hD := hD0.self (sz := s.heap.size)
  generalize hAe : va_A ([(ao, .inl (T 3, 1, .inr (.inl f)))] ++ oC T (w, q, qz, h, qs, t, gr, u, tr, oc) (Sw, S, Z, Sh, Hs, X, Gg, U, K, O)) s.heap.size = A at hD hE0 ⊢
  have hE : gE A s s.heap := hE0
  have hA : ∀ q : Nat, s.heap.size ≤ q → A q := fun q h => by rw [← hAe]; exact Or.inr h
  have hS : va_S A s.heap s.heap [] := va_S.rf
  refine w_entry ha (Nat.le_of_ble_eq_true rfl) (fun ls hl => ?_)
  refine w_q (fun Q0 hQ => ?_)
  have hl : lv_has ls 6 [(0, .ref (w 0)), (1, .int x), (2, .int y), (3, .int z), (4, .ref ao)] := hl
  refine w_h (fun H locs hHe hLe => ?_)
  have hP : va_P G vwCl ([(ao, .inl (T 3, 1, .inr (.inl f)))] ++ oC T (w, q, qz, h, qs, t, gr, u, tr, oc) (Sw, S, Z, Sh, Hs, X, Gg, U, K, O)) H := by rw [hHe]; exact hP
  have hS : va_S A s.heap H locs := by rw [hHe, hLe]; exact hS
  refine lv_aload hx hb dL_ifWhistled_0 (lv_at hl 4 rfl) ?_
  refine n_iconst hx hb 0 dL_ifWhistled_2 (by decide) ?_
  refine lv_aload_n hx hb dL_ifWhistled_3 rfl (lv_at hl 0 rfl) ?_
  refine lv_iload_n hx hb dL_ifWhistled_4 rfl (lv_at hl 1 rfl) ?_
  refine lv_iload_n hx hb dL_ifWhistled_5 rfl (lv_at hl 2 rfl) ?_
  refine lv_iload_n hx hb dL_ifWhistled_6 rfl (lv_at hl 3 rfl) ?_
  refine k_rxV (As := [.int x, .int y, .int z]) (rest := [.int (nI 0), .ref ao]) (wc := [(ao, .inl (T 3, 1, .inr (.inl f)))] ++ oC T (w, q, qz, h, qs, t, gr, u, tr, oc) (Sw, S, Z, Sh, Hs, X, Gg, U, K, O)) (wr := []) (w1 := [(ao, .inl (T 3, 1, .inr (.inl f)))] ++ oC T (w, q, qz, h, qs, t, gr, u, tr, oc) (Sw, S, Z, Sh, Hs, X, Gg, U, K, O)) (d := 7) cx (RX.fr (w_X7_ifWhistled_t l hst G T H.size w q qz h qs t gr u tr oc Sw S Z Sh Hs X Gg U K O x y z hbx) (Fr.head [(ao, .inl (T 3, 1, .inr (.inl f)))] (oC T (w, q, qz, h, qs, t, gr, u, tr, oc) (Sw, S, Z, Sh, Hs, X, Gg, U, K, O)) (oC T (w, q, qz, h, qs, t, gr, u, tr, oc) (Sw, S, Z, Sh, Hs, X, Gg, U, K, O)))) (cwV 3 hts gL_ifWhistled_X7_ifWhistled rfl rfl rfl (by decide +kernel) ⟨Nat.le_of_ble_eq_true rfl, Nat.le_of_ble_eq_true rfl⟩) (kN_full hP hD hS hA hE hK) hC (va_recv hK hP (ci := 7) (q0 := 1) rfl rfl) rfl hl.1 rfl (Nat.le_of_ble_eq_true rfl) dL_ifWhistled_7 ⟨Nat.le_of_ble_eq_true rfl, Nat.le_of_ble_eq_true rfl⟩ (fun E9 ce q9 H locs he hP hD hS h1 h2 h3 => ?_) (fun v H locs he => by cases he)
  cases he
  refine vx_catch (own := RL) (name := "java/lang/IndexOutOfBoundsException") (E := "java/lang/IndexOutOfBoundsException") hown [] ⟨0, 12, 15, 13⟩ [⟨0, 12, 19, 15⟩] (htab.trans rfl) (fun _ h9 => by cases h9) (by decide) (by decide) (hts (.classLink RL 13 "java/lang/IndexOutOfBoundsException") (by decide +kernel)) (va_Nw.use rfl (hC.1 "java/lang/IndexOutOfBoundsException" (by decide))) h1 h2 h3 ?_
  refine lv_astore (lv' := [(5, .ref q9), (0, .ref (w 0)), (1, .int x), (2, .int y), (3, .int z), (4, .ref ao)]) hx hb dL_ifWhistled_15 hl (by decide) rfl (fun ls hl => ?_)
  refine n_iconst hx hb 1 dL_ifWhistled_17 (by decide) ?_
  subst hQ
  exact vx_ret (W.widen (k := 1) (n := 6) (by decide) (by decide) (e_rwi hx hb hr hlocks hS rfl hP hD dL_ifWhistled_18))
set_option maxHeartbeats 4000000 in
set_option maxRecDepth 100000 in
theorem c_L_ifWhistled_t2 (l : Launch) (hst : l.stackTraces = false) (G : va_G) (T : Nat → ClassId) (sz ao : Nat) (f : Nat → Int64) (w : Nat → Nat) (q : Nat → Nat) (qz : Nat → Nat) (h : Nat → Nat) (qs : Nat → Nat → Nat) (t : Nat → Nat) (gr : Nat → Nat) (u : Nat → Nat) (tr : Nat → Nat) (oc : Nat → Nat) (Sw : Nat → Nat → Int32) (S : Nat → Nat → Int32) (Z : Nat → Nat → Int32) (Sh : Nat → Nat → Int32) (Hs : Nat → Nat → Nat → Int32) (X : Nat → Nat → Int32) (Gg : Nat → Nat → Int32) (U : Nat → Nat → Int32) (K : Nat → Nat → Int32) (O : Nat → Nat → Int32) (rr : Nat) (y : Int32) (z : Int32) (hr6 : rr < 6) (hby : pBt y 20 = false) : RWx l yL_ifWhistled wsL_ifWhistled 8 G T sz ([(ao, .inl (T 3, 1, .inr (.inl f)))] ++ oC T (w, q, qz, h, qs, t, gr, u, tr, oc) (Sw, S, Z, Sh, Hs, X, Gg, U, K, O)) [.ref (w 0), .int (nI rr), .int y, .int z, .ref ao] (nI 1) ([(ao, .inl (T 3, 1, .inr (.inl f)))] ++ oC T (w, q, qz, h, qs, t, gr, u, tr, oc) (Sw, S, Z, Sh, Hs, X, Gg, U, K, O)) := by
  refine met_vx (vx_ofWH (cc := cL_ifWhistled) (maxL := 6) (ret := (some .int)) (by decide) rfl ?_)
  intro p e s m args below meth c s₁ B hml hv
  obtain ⟨ha, ⟨⟨hsz, hP, hK, hD0, hE0⟩, hC⟩, hN9⟩ := hv
  have hx := B.exec
  have hb := B.bytes
  have hr := B.returns
  have hlocks := B.notSynchronized
  have hts := atoms_spec (ws := wsL_ifWhistled) B.pre
  have htab := vx_table (x := yL_ifWhistled) B (hts (.codeWith yL_ifWhistled cL_ifWhistled 6 (some .int) [(0, 12, 15, 13), (0, 12, 19, 15)]) List.mem_cons_self)
  have hown : s.vm.findClass RL = some m.cls := findClass_of_methodNamed B.named
  have cx : CallFix p m c cL_ifWhistled 6 s args wsL_ifWhistled RL := ⟨hx, hb, hml, hown, hts⟩
  subst hsz
  have hD := hD0.self (sz := s.heap.size)
  generalize hAe : va_A ([(ao, .inl (T 3, 1, .inr (.inl f)))] ++ oC T (w, q, qz, h, qs, t, gr, u, tr, oc) (Sw, S, Z, Sh, Hs, X, Gg, U, K, O)) s.heap.size = A at hD hE0 ⊢
  have hE : gE A s s.heap := hE0
  have hA : ∀ q : Nat, s.heap.size ≤ q → A q := fun q h => by rw [← hAe]; exact Or.inr h
  have hS : va_S A s.heap s.heap [] := va_S.rf
  refine w_entry ha (Nat.le_of_ble_eq_true rfl) (fun ls hl => ?_)
  refine w_q (fun Q0 hQ => ?_)
  have hl : lv_has ls 6 [(0, .ref (w 0)), (1, .int (nI rr)), (2, .int y), (3, .int z), (4, .ref ao)] := hl
  refine w_h (fun H locs hHe hLe => ?_)
  have hP : va_P G vwCl ([(ao, .inl (T 3, 1, .inr (.inl f)))] ++ oC T (w, q, qz, h, qs, t, gr, u, tr, oc) (Sw, S, Z, Sh, Hs, X, Gg, U, K, O)) H := by rw [hHe]; exact hP
  have hS : va_S A s.heap H locs := by rw [hHe, hLe]; exact hS
  refine lv_aload hx hb dL_ifWhistled_0 (lv_at hl 4 rfl) ?_
  refine n_iconst hx hb 0 dL_ifWhistled_2 (by decide) ?_
  refine lv_aload_n hx hb dL_ifWhistled_3 rfl (lv_at hl 0 rfl) ?_
  refine lv_iload_n hx hb dL_ifWhistled_4 rfl (lv_at hl 1 rfl) ?_
  refine lv_iload_n hx hb dL_ifWhistled_5 rfl (lv_at hl 2 rfl) ?_
  refine lv_iload_n hx hb dL_ifWhistled_6 rfl (lv_at hl 3 rfl) ?_
  refine k_rxV (As := [.int (nI rr), .int y, .int z]) (rest := [.int (nI 0), .ref ao]) (wc := [(ao, .inl (T 3, 1, .inr (.inl f)))] ++ oC T (w, q, qz, h, qs, t, gr, u, tr, oc) (Sw, S, Z, Sh, Hs, X, Gg, U, K, O)) (wr := []) (w1 := [(ao, .inl (T 3, 1, .inr (.inl f)))] ++ oC T (w, q, qz, h, qs, t, gr, u, tr, oc) (Sw, S, Z, Sh, Hs, X, Gg, U, K, O)) (d := 7) cx (RX.fr (w_X7_ifWhistled_t2 l hst G T H.size w q qz h qs t gr u tr oc Sw S Z Sh Hs X Gg U K O rr y z hr6 hby) (Fr.head [(ao, .inl (T 3, 1, .inr (.inl f)))] (oC T (w, q, qz, h, qs, t, gr, u, tr, oc) (Sw, S, Z, Sh, Hs, X, Gg, U, K, O)) (oC T (w, q, qz, h, qs, t, gr, u, tr, oc) (Sw, S, Z, Sh, Hs, X, Gg, U, K, O)))) (cwV 3 hts gL_ifWhistled_X7_ifWhistled rfl rfl rfl (by decide +kernel) ⟨Nat.le_of_ble_eq_true rfl, Nat.le_of_ble_eq_true rfl⟩) (kN_full hP hD hS hA hE hK) hC (va_recv hK hP (ci := 7) (q0 := 1) rfl rfl) rfl hl.1 rfl (Nat.le_of_ble_eq_true rfl) dL_ifWhistled_7 ⟨Nat.le_of_ble_eq_true rfl, Nat.le_of_ble_eq_true rfl⟩ (fun E9 ce q9 H locs he hP hD hS h1 h2 h3 => ?_) (fun v H locs he => by cases he)
  cases he
  refine vx_catch (own := RL) (name := "java/lang/IndexOutOfBoundsException") (E := "java/lang/IndexOutOfBoundsException") hown [] ⟨0, 12, 15, 13⟩ [⟨0, 12, 19, 15⟩] (htab.trans rfl) (fun _ h9 => by cases h9) (by decide) (by decide) (hts (.classLink RL 13 "java/lang/IndexOutOfBoundsException") (by decide +kernel)) (va_Nw.use rfl (hC.1 "java/lang/IndexOutOfBoundsException" (by decide))) h1 h2 h3 ?_
  refine lv_astore (lv' := [(5, .ref q9), (0, .ref (w 0)), (1, .int (nI rr)), (2, .int y), (3, .int z), (4, .ref ao)]) hx hb dL_ifWhistled_15 hl (by decide) rfl (fun ls hl => ?_)
  refine n_iconst hx hb 1 dL_ifWhistled_17 (by decide) ?_
  subst hQ
  exact vx_ret (W.widen (k := 1) (n := 6) (by decide) (by decide) (e_rwi hx hb hr hlocks hS rfl hP hD dL_ifWhistled_18))
set_option maxHeartbeats 4000000 in
set_option maxRecDepth 100000 in
theorem c_L_ifWhistled_t3 (l : Launch) (hst : l.stackTraces = false) (G : va_G) (T : Nat → ClassId) (sz ao : Nat) (f : Nat → Int64) (w : Nat → Nat) (q : Nat → Nat) (qz : Nat → Nat) (h : Nat → Nat) (qs : Nat → Nat → Nat) (t : Nat → Nat) (gr : Nat → Nat) (u : Nat → Nat) (tr : Nat → Nat) (oc : Nat → Nat) (Sw : Nat → Nat → Int32) (S : Nat → Nat → Int32) (Z : Nat → Nat → Int32) (Sh : Nat → Nat → Int32) (Hs : Nat → Nat → Nat → Int32) (X : Nat → Nat → Int32) (Gg : Nat → Nat → Int32) (U : Nat → Nat → Int32) (K : Nat → Nat → Int32) (O : Nat → Nat → Int32) (rr : Nat) (mm : Nat) (z : Int32) (hr6 : rr < 6) (hm20 : mm < 20) (hz : pBt z 4 = false) : RWx l yL_ifWhistled wsL_ifWhistled 8 G T sz ([(ao, .inl (T 3, 1, .inr (.inl f)))] ++ oC T (w, q, qz, h, qs, t, gr, u, tr, oc) (Sw, S, Z, Sh, Hs, X, Gg, U, K, O)) [.ref (w 0), .int (nI rr), .int (nI mm), .int z, .ref ao] (nI 2) ([(ao, .inl (T 3, 1, .inr (.inl f)))] ++ oC T (w, q, qz, h, qs, t, gr, u, tr, oc) (Sw, S, Z, Sh, Hs, X, Gg, U, K, O)) := by
  refine met_vx (vx_ofWH (cc := cL_ifWhistled) (maxL := 6) (ret := (some .int)) (by decide) rfl ?_)
  intro p e s m args below meth c s₁ B hml hv
  obtain ⟨ha, ⟨⟨hsz, hP, hK, hD0, hE0⟩, hC⟩, hN9⟩ := hv
  have hx := B.exec
  have hb := B.bytes
  have hr := B.returns
  have hlocks := B.notSynchronized
  have hts := atoms_spec (ws := wsL_ifWhistled) B.pre
  have htab := vx_table (x := yL_ifWhistled) B (hts (.codeWith yL_ifWhistled cL_ifWhistled 6 (some .int) [(0, 12, 15, 13), (0, 12, 19, 15)]) List.mem_cons_self)
  have hown : s.vm.findClass RL = some m.cls := findClass_of_methodNamed B.named
  have cx : CallFix p m c cL_ifWhistled 6 s args wsL_ifWhistled RL := ⟨hx, hb, hml, hown, hts⟩
  subst hsz
  have hD := hD0.self (sz := s.heap.size)
  generalize hAe : va_A ([(ao, .inl (T 3, 1, .inr (.inl f)))] ++ oC T (w, q, qz, h, qs, t, gr, u, tr, oc) (Sw, S, Z, Sh, Hs, X, Gg, U, K, O)) s.heap.size = A at hD hE0 ⊢
  have hE : gE A s s.heap := hE0
  have hA : ∀ q : Nat, s.heap.size ≤ q → A q := fun q h => by rw [← hAe]; exact Or.inr h
  have hS : va_S A s.heap s.heap [] := va_S.rf
  refine w_entry ha (Nat.le_of_ble_eq_true rfl) (fun ls hl => ?_)
  refine w_q (fun Q0 hQ => ?_)
  have hl : lv_has ls 6 [(0, .ref (w 0)), (1, .int (nI rr)), (2, .int (nI mm)), (3, .int z), (4, .ref ao)] := hl
  refine w_h (fun H locs hHe hLe => ?_)
  have hP : va_P G vwCl ([(ao, .inl (T 3, 1, .inr (.inl f)))] ++ oC T (w, q, qz, h, qs, t, gr, u, tr, oc) (Sw, S, Z, Sh, Hs, X, Gg, U, K, O)) H := by rw [hHe]; exact hP
  have hS : va_S A s.heap H locs := by rw [hHe, hLe]; exact hS
  refine lv_aload hx hb dL_ifWhistled_0 (lv_at hl 4 rfl) ?_
  refine n_iconst hx hb 0 dL_ifWhistled_2 (by decide) ?_
  refine lv_aload_n hx hb dL_ifWhistled_3 rfl (lv_at hl 0 rfl) ?_
  refine lv_iload_n hx hb dL_ifWhistled_4 rfl (lv_at hl 1 rfl) ?_
  refine lv_iload_n hx hb dL_ifWhistled_5 rfl (lv_at hl 2 rfl) ?_
  refine lv_iload_n hx hb dL_ifWhistled_6 rfl (lv_at hl 3 rfl) ?_
  refine k_rxV (As := [.int (nI rr), .int (nI mm), .int z]) (rest := [.int (nI 0), .ref ao]) (wc := [(ao, .inl (T 3, 1, .inr (.inl f)))] ++ oC T (w, q, qz, h, qs, t, gr, u, tr, oc) (Sw, S, Z, Sh, Hs, X, Gg, U, K, O)) (wr := []) (w1 := [(ao, .inl (T 3, 1, .inr (.inl f)))] ++ oC T (w, q, qz, h, qs, t, gr, u, tr, oc) (Sw, S, Z, Sh, Hs, X, Gg, U, K, O)) (d := 7) cx (RX.fr (w_X7_ifWhistled_t3 l hst G T H.size w q qz h qs t gr u tr oc Sw S Z Sh Hs X Gg U K O rr mm z hr6 hm20 hz) (Fr.head [(ao, .inl (T 3, 1, .inr (.inl f)))] (oC T (w, q, qz, h, qs, t, gr, u, tr, oc) (Sw, S, Z, Sh, Hs, X, Gg, U, K, O)) (oC T (w, q, qz, h, qs, t, gr, u, tr, oc) (Sw, S, Z, Sh, Hs, X, Gg, U, K, O)))) (cwV 3 hts gL_ifWhistled_X7_ifWhistled rfl rfl rfl (by decide +kernel) ⟨Nat.le_of_ble_eq_true rfl, Nat.le_of_ble_eq_true rfl⟩) (kN_full hP hD hS hA hE hK) hC (va_recv hK hP (ci := 7) (q0 := 1) rfl rfl) rfl hl.1 rfl (Nat.le_of_ble_eq_true rfl) dL_ifWhistled_7 ⟨Nat.le_of_ble_eq_true rfl, Nat.le_of_ble_eq_true rfl⟩ (fun E9 ce q9 H locs he hP hD hS h1 h2 h3 => ?_) (fun v H locs he => by cases he)
  cases he
  refine vx_catch (own := RL) (name := "java/lang/IllegalArgumentException") (E := "java/lang/IllegalArgumentException") hown [⟨0, 12, 15, 13⟩] ⟨0, 12, 19, 15⟩ [] (htab.trans rfl) (List.forall_mem_cons.mpr ⟨Or.inr ⟨by decide, "java/lang/IndexOutOfBoundsException", hts (.classLink RL 13 "java/lang/IndexOutOfBoundsException") (by decide +kernel), hN9.1⟩, (fun _ h9 => by cases h9)⟩) (by decide) (by decide) (hts (.classLink RL 15 "java/lang/IllegalArgumentException") (by decide +kernel)) (va_Nw.use rfl (hC.1 "java/lang/IllegalArgumentException" (by decide))) h1 h2 h3 ?_
  refine lv_astore (lv' := [(5, .ref q9), (0, .ref (w 0)), (1, .int (nI rr)), (2, .int (nI mm)), (3, .int z), (4, .ref ao)]) hx hb dL_ifWhistled_19 hl (by decide) rfl (fun ls hl => ?_)
  refine n_iconst hx hb 2 dL_ifWhistled_21 (by decide) ?_
  subst hQ
  exact vx_ret (W.widen (k := 1) (n := 6) (by decide) (by decide) (e_rwi hx hb hr hlocks hS rfl hP hD dL_ifWhistled_22))
set_option maxHeartbeats 4000000 in
set_option maxRecDepth 100000 in
theorem c_L_bestRoom (l : Launch) (hst : l.stackTraces = false) (G : va_G) (T : Nat → ClassId) (sz ao : Nat) (f : Nat → Int64) (w : Nat → Nat) (q : Nat → Nat) (qz : Nat → Nat) (h : Nat → Nat) (qs : Nat → Nat → Nat) (t : Nat → Nat) (gr : Nat → Nat) (u : Nat → Nat) (tr : Nat → Nat) (oc : Nat → Nat) (Sw : Nat → Nat → Int32) (S : Nat → Nat → Int32) (Z : Nat → Nat → Int32) (Sh : Nat → Nat → Int32) (Hs : Nat → Nat → Nat → Int32) (X : Nat → Nat → Int32) (Gg : Nat → Nat → Int32) (U : Nat → Nat → Int32) (K : Nat → Nat → Int32) (O : Nat → Nat → Int32) (mm : Nat) (hm20 : mm < 20) : RWx l yL_bestRoom wsL_bestRoom 5 G T sz ([(ao, .inl (T 3, 1, .inr (.inl f)))] ++ oC T (w, q, qz, h, qs, t, gr, u, tr, oc) (Sw, S, Z, Sh, Hs, X, Gg, U, K, O)) [.ref (w 0), .int (nI mm), .ref ao] (nI 0) ([(ao, .inl (T 3, 1, .inr (.inl (vp_updL f 0 ((pBr S mm 6).1).toInt64))))] ++ oC T (w, q, qz, h, qs, t, gr, u, tr, oc) (Sw, S, Z, Sh, Hs, X, Gg, U, K, pBrO O S mm 6)) := by
  refine met_vx (vx_ofWH (cc := cL_bestRoom) (maxL := 4) (ret := (some .int)) (by decide) rfl ?_)
  intro p e s m args below meth c s₁ B hml hv
  obtain ⟨ha, ⟨⟨hsz, hP, hK, hD0, hE0⟩, hC⟩, hN9⟩ := hv
  have hx := B.exec
  have hb := B.bytes
  have hr := B.returns
  have hlocks := B.notSynchronized
  have hts := atoms_spec (ws := wsL_bestRoom) B.pre
  have htab := vx_table (x := yL_bestRoom) B (hts (.codeWith yL_bestRoom cL_bestRoom 4 (some .int) [(0, 9, 12, 13)]) List.mem_cons_self)
  have hown : s.vm.findClass RL = some m.cls := findClass_of_methodNamed B.named
  have cx : CallFix p m c cL_bestRoom 4 s args wsL_bestRoom RL := ⟨hx, hb, hml, hown, hts⟩
  subst hsz
  have hD := hD0.self (sz := s.heap.size)
  generalize hAe : va_A ([(ao, .inl (T 3, 1, .inr (.inl f)))] ++ oC T (w, q, qz, h, qs, t, gr, u, tr, oc) (Sw, S, Z, Sh, Hs, X, Gg, U, K, O)) s.heap.size = A at hD hE0 ⊢
  have hE : gE A s s.heap := hE0
  have hA : ∀ q : Nat, s.heap.size ≤ q → A q := fun q h => by rw [← hAe]; exact Or.inr h
  have hS : va_S A s.heap s.heap [] := va_S.rf
  refine w_entry ha (Nat.le_of_ble_eq_true rfl) (fun ls hl => ?_)
  refine w_q (fun Q0 hQ => ?_)
  have hl : lv_has ls 4 [(0, .ref (w 0)), (1, .int (nI mm)), (2, .ref ao)] := hl
  refine w_h (fun H locs hHe hLe => ?_)
  have hP : va_P G vwCl ([(ao, .inl (T 3, 1, .inr (.inl f)))] ++ oC T (w, q, qz, h, qs, t, gr, u, tr, oc) (Sw, S, Z, Sh, Hs, X, Gg, U, K, O)) H := by rw [hHe]; exact hP
  have hS : va_S A s.heap H locs := by rw [hHe, hLe]; exact hS
  refine lv_aload_n hx hb dL_bestRoom_0 rfl (lv_at hl 2 rfl) ?_
  refine n_iconst hx hb 0 dL_bestRoom_1 (by decide) ?_
  refine lv_aload_n hx hb dL_bestRoom_2 rfl (lv_at hl 0 rfl) ?_
  refine lv_iload_n hx hb dL_bestRoom_3 rfl (lv_at hl 1 rfl) ?_
  refine k_rwV (As := [.int (nI mm)]) (rest := [.int (nI 0), .ref ao]) (wc := [(ao, .inl (T 3, 1, .inr (.inl f)))] ++ oC T (w, q, qz, h, qs, t, gr, u, tr, oc) (Sw, S, Z, Sh, Hs, X, Gg, U, K, O)) (wr := []) (w1 := [(ao, .inl (T 3, 1, .inr (.inl f)))] ++ oC T (w, q, qz, h, qs, t, gr, u, tr, oc) (Sw, S, Z, Sh, Hs, X, Gg, U, K, pBrO O S mm 6)) (d := 4) (mc := 0) (ms := 0) (v := (pBr S mm 6).1) cx (RWi.fr (w_X7_bestRoom l G T H.size w q qz h qs t gr u tr oc Sw S Z Sh Hs X Gg U K O mm hm20) (Fr.head [(ao, .inl (T 3, 1, .inr (.inl f)))] (oC T (w, q, qz, h, qs, t, gr, u, tr, oc) (Sw, S, Z, Sh, Hs, X, Gg, U, K, O)) (oC T (w, q, qz, h, qs, t, gr, u, tr, oc) (Sw, S, Z, Sh, Hs, X, Gg, U, K, pBrO O S mm 6)))) (cwV 1 hts gL_bestRoom_X7_bestRoom rfl rfl rfl (by decide +kernel) ⟨Nat.le_of_ble_eq_true rfl, Nat.le_of_ble_eq_true rfl⟩) (kN_full hP hD hS hA hE hK) (va_recv hK hP (ci := 7) (q0 := 1) rfl rfl) rfl hl.1 rfl (Nat.le_of_ble_eq_true rfl) dL_bestRoom_4 ⟨Nat.le_of_ble_eq_true rfl, Nat.le_of_ble_eq_true rfl⟩ (fun H locs hP hD hS hz => ?_)
  have hP : va_P G vwCl ([(ao, .inl (T 3, 1, .inr (.inl f)))] ++ oC T (w, q, qz, h, qs, t, gr, u, tr, oc) (Sw, S, Z, Sh, Hs, X, Gg, U, K, pBrO O S mm 6)) H := hP
  have hD : va_D A ([(ao, .inl (T 3, 1, .inr (.inl f)))] ++ oC T (w, q, qz, h, qs, t, gr, u, tr, oc) (Sw, S, Z, Sh, Hs, X, Gg, U, K, pBrO O S mm 6)) := hD
  refine lv_i2l (v := ((pBr S mm 6).1).toInt64) hx hb dL_bestRoom_7 rfl ?_
  refine va_last hx hb hK hP hD hS 0 3 rfl rfl (vp_in_nI (show 0 < 1 by decide) (by decide)) dL_bestRoom_8 (fun H locs hP hD hS => ?_)
  have hP : va_P G vwCl ([(ao, .inl (T 3, 1, .inr (.inl (vp_updL f 0 ((pBr S mm 6).1).toInt64))))] ++ oC T (w, q, qz, h, qs, t, gr, u, tr, oc) (Sw, S, Z, Sh, Hs, X, Gg, U, K, pBrO O S mm 6)) H := hP
  have hD : va_D A ([(ao, .inl (T 3, 1, .inr (.inl (vp_updL f 0 ((pBr S mm 6).1).toInt64))))] ++ oC T (w, q, qz, h, qs, t, gr, u, tr, oc) (Sw, S, Z, Sh, Hs, X, Gg, U, K, pBrO O S mm 6)) := hD
  refine lv_goto (tgt := 15) hx hb dL_bestRoom_9 (by decide) ?_
  refine n_iconst hx hb 0 dL_bestRoom_15 (by decide) ?_
  subst hQ
  exact vx_ret (W.widen (k := 1) (n := 6) (by decide) (by decide) (e_rwi hx hb hr hlocks hS rfl hP hD dL_bestRoom_16))
set_option maxHeartbeats 4000000 in
set_option maxRecDepth 100000 in
theorem c_L_bestRoom_t (l : Launch) (hst : l.stackTraces = false) (G : va_G) (T : Nat → ClassId) (sz ao : Nat) (f : Nat → Int64) (w : Nat → Nat) (q : Nat → Nat) (qz : Nat → Nat) (h : Nat → Nat) (qs : Nat → Nat → Nat) (t : Nat → Nat) (gr : Nat → Nat) (u : Nat → Nat) (tr : Nat → Nat) (oc : Nat → Nat) (Sw : Nat → Nat → Int32) (S : Nat → Nat → Int32) (Z : Nat → Nat → Int32) (Sh : Nat → Nat → Int32) (Hs : Nat → Nat → Nat → Int32) (X : Nat → Nat → Int32) (Gg : Nat → Nat → Int32) (U : Nat → Nat → Int32) (K : Nat → Nat → Int32) (O : Nat → Nat → Int32) (x : Int32) (hbx : pBt x 20 = false) : RWx l yL_bestRoom wsL_bestRoom 8 G T sz ([(ao, .inl (T 3, 1, .inr (.inl f)))] ++ oC T (w, q, qz, h, qs, t, gr, u, tr, oc) (Sw, S, Z, Sh, Hs, X, Gg, U, K, O)) [.ref (w 0), .int x, .ref ao] (nI 1) ([(ao, .inl (T 3, 1, .inr (.inl f)))] ++ oC T (w, q, qz, h, qs, t, gr, u, tr, oc) (Sw, S, Z, Sh, Hs, X, Gg, U, K, O)) := by
  refine met_vx (vx_ofWH (cc := cL_bestRoom) (maxL := 4) (ret := (some .int)) (by decide) rfl ?_)
  intro p e s m args below meth c s₁ B hml hv
  obtain ⟨ha, ⟨⟨hsz, hP, hK, hD0, hE0⟩, hC⟩, hN9⟩ := hv
  have hx := B.exec
  have hb := B.bytes
  have hr := B.returns
  have hlocks := B.notSynchronized
  have hts := atoms_spec (ws := wsL_bestRoom) B.pre
  have htab := vx_table (x := yL_bestRoom) B (hts (.codeWith yL_bestRoom cL_bestRoom 4 (some .int) [(0, 9, 12, 13)]) List.mem_cons_self)
  have hown : s.vm.findClass RL = some m.cls := findClass_of_methodNamed B.named
  have cx : CallFix p m c cL_bestRoom 4 s args wsL_bestRoom RL := ⟨hx, hb, hml, hown, hts⟩
  subst hsz
  have hD := hD0.self (sz := s.heap.size)
  generalize hAe : va_A ([(ao, .inl (T 3, 1, .inr (.inl f)))] ++ oC T (w, q, qz, h, qs, t, gr, u, tr, oc) (Sw, S, Z, Sh, Hs, X, Gg, U, K, O)) s.heap.size = A at hD hE0 ⊢
  have hE : gE A s s.heap := hE0
  have hA : ∀ q : Nat, s.heap.size ≤ q → A q := fun q h => by rw [← hAe]; exact Or.inr h
  have hS : va_S A s.heap s.heap [] := va_S.rf
  refine w_entry ha (Nat.le_of_ble_eq_true rfl) (fun ls hl => ?_)
  refine w_q (fun Q0 hQ => ?_)
  have hl : lv_has ls 4 [(0, .ref (w 0)), (1, .int x), (2, .ref ao)] := hl
  refine w_h (fun H locs hHe hLe => ?_)
  have hP : va_P G vwCl ([(ao, .inl (T 3, 1, .inr (.inl f)))] ++ oC T (w, q, qz, h, qs, t, gr, u, tr, oc) (Sw, S, Z, Sh, Hs, X, Gg, U, K, O)) H := by rw [hHe]; exact hP
  have hS : va_S A s.heap H locs := by rw [hHe, hLe]; exact hS
  refine lv_aload_n hx hb dL_bestRoom_0 rfl (lv_at hl 2 rfl) ?_
  refine n_iconst hx hb 0 dL_bestRoom_1 (by decide) ?_
  refine lv_aload_n hx hb dL_bestRoom_2 rfl (lv_at hl 0 rfl) ?_
  refine lv_iload_n hx hb dL_bestRoom_3 rfl (lv_at hl 1 rfl) ?_
  refine k_rxV (As := [.int x]) (rest := [.int (nI 0), .ref ao]) (wc := [(ao, .inl (T 3, 1, .inr (.inl f)))] ++ oC T (w, q, qz, h, qs, t, gr, u, tr, oc) (Sw, S, Z, Sh, Hs, X, Gg, U, K, O)) (wr := []) (w1 := [(ao, .inl (T 3, 1, .inr (.inl f)))] ++ oC T (w, q, qz, h, qs, t, gr, u, tr, oc) (Sw, S, Z, Sh, Hs, X, Gg, U, K, O)) (d := 7) cx (RX.fr (w_X7_bestRoom_t l hst G T H.size w q qz h qs t gr u tr oc Sw S Z Sh Hs X Gg U K O x hbx) (Fr.head [(ao, .inl (T 3, 1, .inr (.inl f)))] (oC T (w, q, qz, h, qs, t, gr, u, tr, oc) (Sw, S, Z, Sh, Hs, X, Gg, U, K, O)) (oC T (w, q, qz, h, qs, t, gr, u, tr, oc) (Sw, S, Z, Sh, Hs, X, Gg, U, K, O)))) (cwV 1 hts gL_bestRoom_X7_bestRoom rfl rfl rfl (by decide +kernel) ⟨Nat.le_of_ble_eq_true rfl, Nat.le_of_ble_eq_true rfl⟩) (kN_full hP hD hS hA hE hK) hC (va_recv hK hP (ci := 7) (q0 := 1) rfl rfl) rfl hl.1 rfl (Nat.le_of_ble_eq_true rfl) dL_bestRoom_4 ⟨Nat.le_of_ble_eq_true rfl, Nat.le_of_ble_eq_true rfl⟩ (fun E9 ce q9 H locs he hP hD hS h1 h2 h3 => ?_) (fun v H locs he => by cases he)
  cases he
  refine vx_catch (own := RL) (name := "java/lang/IndexOutOfBoundsException") (E := "java/lang/IndexOutOfBoundsException") hown [] ⟨0, 9, 12, 13⟩ [] (htab.trans rfl) (fun _ h9 => by cases h9) (by decide) (by decide) (hts (.classLink RL 13 "java/lang/IndexOutOfBoundsException") (by decide +kernel)) (va_Nw.use rfl (hC.1 "java/lang/IndexOutOfBoundsException" (by decide))) h1 h2 h3 ?_
  refine lv_astore_n (lv' := [(3, .ref q9), (0, .ref (w 0)), (1, .int x), (2, .ref ao)]) hx hb dL_bestRoom_12 rfl hl (by decide) rfl (fun ls hl => ?_)
  refine n_iconst hx hb 1 dL_bestRoom_13 (by decide) ?_
  subst hQ
  exact vx_ret (W.widen (k := 1) (n := 6) (by decide) (by decide) (e_rwi hx hb hr hlocks hS rfl hP hD dL_bestRoom_14))
set_option maxHeartbeats 4000000 in
set_option maxRecDepth 100000 in
theorem c_L_append (l : Launch) (hst : l.stackTraces = false) (G : va_G) (T : Nat → ClassId) (sz ao : Nat) (f : Nat → Int64) (w : Nat → Nat) (q : Nat → Nat) (qz : Nat → Nat) (h : Nat → Nat) (qs : Nat → Nat → Nat) (t : Nat → Nat) (gr : Nat → Nat) (u : Nat → Nat) (tr : Nat → Nat) (oc : Nat → Nat) (Sw : Nat → Nat → Int32) (S : Nat → Nat → Int32) (Z : Nat → Nat → Int32) (Sh : Nat → Nat → Int32) (Hs : Nat → Nat → Nat → Int32) (X : Nat → Nat → Int32) (Gg : Nat → Nat → Int32) (U : Nat → Nat → Int32) (K : Nat → Nat → Int32) (O : Nat → Nat → Int32) (n : Nat) (cc : Nat) (hlen : X 0 1 = nI n) (hn60 : n ≤ 60) (hn59 : n < 60) (hc33 : 33 ≤ cc) (hc126 : cc ≤ 126) : RWx l yL_append wsL_append 3 G T sz ([(ao, .inl (T 3, 1, .inr (.inl f)))] ++ oC T (w, q, qz, h, qs, t, gr, u, tr, oc) (Sw, S, Z, Sh, Hs, X, Gg, U, K, O)) [.ref (w 0), .int (nI cc), .ref ao] (nI 0) ([(ao, .inl (T 3, 1, .inr (.inl (vp_updL f 0 ((nI (n + 1))).toInt64))))] ++ oC T (w, q, qz, h, qs, t, gr, u, tr, oc) (Sw, S, Z, Sh, Hs, sa (sc X 1 (nI (n + 1))) 1 (upd (X 1) n (nI cc)), Gg, U, K, O)) := by
  refine met_vx (vx_ofWH (cc := cL_append) (maxL := 4) (ret := (some .int)) (by decide) rfl ?_)
  intro p e s m args below meth c s₁ B hml hv
  obtain ⟨ha, ⟨⟨hsz, hP, hK, hD0, hE0⟩, hC⟩, hN9⟩ := hv
  have hx := B.exec
  have hb := B.bytes
  have hr := B.returns
  have hlocks := B.notSynchronized
  have hts := atoms_spec (ws := wsL_append) B.pre
  have htab := vx_table (x := yL_append) B (hts (.codeWith yL_append cL_append 4 (some .int) [(0, 9, 12, 15), (0, 9, 15, 17)]) List.mem_cons_self)
  have hown : s.vm.findClass RL = some m.cls := findClass_of_methodNamed B.named
  have cx : CallFix p m c cL_append 4 s args wsL_append RL := ⟨hx, hb, hml, hown, hts⟩
  subst hsz
  have hD := hD0.self (sz := s.heap.size)
  generalize hAe : va_A ([(ao, .inl (T 3, 1, .inr (.inl f)))] ++ oC T (w, q, qz, h, qs, t, gr, u, tr, oc) (Sw, S, Z, Sh, Hs, X, Gg, U, K, O)) s.heap.size = A at hD hE0 ⊢
  have hE : gE A s s.heap := hE0
  have hA : ∀ q : Nat, s.heap.size ≤ q → A q := fun q h => by rw [← hAe]; exact Or.inr h
  have hS : va_S A s.heap s.heap [] := va_S.rf
  refine w_entry ha (Nat.le_of_ble_eq_true rfl) (fun ls hl => ?_)
  refine w_q (fun Q0 hQ => ?_)
  have hl : lv_has ls 4 [(0, .ref (w 0)), (1, .int (nI cc)), (2, .ref ao)] := hl
  refine w_h (fun H locs hHe hLe => ?_)
  have hP : va_P G vwCl ([(ao, .inl (T 3, 1, .inr (.inl f)))] ++ oC T (w, q, qz, h, qs, t, gr, u, tr, oc) (Sw, S, Z, Sh, Hs, X, Gg, U, K, O)) H := by rw [hHe]; exact hP
  have hS : va_S A s.heap H locs := by rw [hHe, hLe]; exact hS
  refine lv_aload_n hx hb dL_append_0 rfl (lv_at hl 2 rfl) ?_
  refine n_iconst hx hb 0 dL_append_1 (by decide) ?_
  refine lv_aload_n hx hb dL_append_2 rfl (lv_at hl 0 rfl) ?_
  refine lv_iload_n hx hb dL_append_3 rfl (lv_at hl 1 rfl) ?_
  refine k_rwV (As := [.int (nI cc)]) (rest := [.int (nI 0), .ref ao]) (wc := [(ao, .inl (T 3, 1, .inr (.inl f)))] ++ oC T (w, q, qz, h, qs, t, gr, u, tr, oc) (Sw, S, Z, Sh, Hs, X, Gg, U, K, O)) (wr := []) (w1 := [(ao, .inl (T 3, 1, .inr (.inl f)))] ++ oC T (w, q, qz, h, qs, t, gr, u, tr, oc) (Sw, S, Z, Sh, Hs, sa (sc X 1 (nI (n + 1))) 1 (upd (X 1) n (nI cc)), Gg, U, K, O)) (d := 2) (mc := 0) (ms := 0) (v := nI (n + 1)) cx (RWi.fr (w_X7_append l G T H.size w q qz h qs t gr u tr oc Sw S Z Sh Hs X Gg U K O n cc hlen hn60 hn59 hc33 hc126) (Fr.head [(ao, .inl (T 3, 1, .inr (.inl f)))] (oC T (w, q, qz, h, qs, t, gr, u, tr, oc) (Sw, S, Z, Sh, Hs, X, Gg, U, K, O)) (oC T (w, q, qz, h, qs, t, gr, u, tr, oc) (Sw, S, Z, Sh, Hs, sa (sc X 1 (nI (n + 1))) 1 (upd (X 1) n (nI cc)), Gg, U, K, O)))) (cwV 1 hts gL_append_X7_append rfl rfl rfl (by decide +kernel) ⟨Nat.le_of_ble_eq_true rfl, Nat.le_of_ble_eq_true rfl⟩) (kN_full hP hD hS hA hE hK) (va_recv hK hP (ci := 7) (q0 := 1) rfl rfl) rfl hl.1 rfl (Nat.le_of_ble_eq_true rfl) dL_append_4 ⟨Nat.le_of_ble_eq_true rfl, Nat.le_of_ble_eq_true rfl⟩ (fun H locs hP hD hS hz => ?_)
  have hP : va_P G vwCl ([(ao, .inl (T 3, 1, .inr (.inl f)))] ++ oC T (w, q, qz, h, qs, t, gr, u, tr, oc) (Sw, S, Z, Sh, Hs, sa (sc X 1 (nI (n + 1))) 1 (upd (X 1) n (nI cc)), Gg, U, K, O)) H := hP
  have hD : va_D A ([(ao, .inl (T 3, 1, .inr (.inl f)))] ++ oC T (w, q, qz, h, qs, t, gr, u, tr, oc) (Sw, S, Z, Sh, Hs, sa (sc X 1 (nI (n + 1))) 1 (upd (X 1) n (nI cc)), Gg, U, K, O)) := hD
  refine lv_i2l (v := (nI (n + 1)).toInt64) hx hb dL_append_7 rfl ?_
  refine va_last hx hb hK hP hD hS 0 3 rfl rfl (vp_in_nI (show 0 < 1 by decide) (by decide)) dL_append_8 (fun H locs hP hD hS => ?_)
  have hP : va_P G vwCl ([(ao, .inl (T 3, 1, .inr (.inl (vp_updL f 0 ((nI (n + 1))).toInt64))))] ++ oC T (w, q, qz, h, qs, t, gr, u, tr, oc) (Sw, S, Z, Sh, Hs, sa (sc X 1 (nI (n + 1))) 1 (upd (X 1) n (nI cc)), Gg, U, K, O)) H := hP
  have hD : va_D A ([(ao, .inl (T 3, 1, .inr (.inl (vp_updL f 0 ((nI (n + 1))).toInt64))))] ++ oC T (w, q, qz, h, qs, t, gr, u, tr, oc) (Sw, S, Z, Sh, Hs, sa (sc X 1 (nI (n + 1))) 1 (upd (X 1) n (nI cc)), Gg, U, K, O)) := hD
  refine lv_goto (tgt := 18) hx hb dL_append_9 (by decide) ?_
  refine n_iconst hx hb 0 dL_append_18 (by decide) ?_
  subst hQ
  exact vx_ret (W.widen (k := 1) (n := 6) (by decide) (by decide) (e_rwi hx hb hr hlocks hS rfl hP hD dL_append_19))
set_option maxHeartbeats 4000000 in
set_option maxRecDepth 100000 in
theorem c_L_append_t (l : Launch) (hst : l.stackTraces = false) (G : va_G) (T : Nat → ClassId) (sz ao : Nat) (f : Nat → Int64) (w : Nat → Nat) (q : Nat → Nat) (qz : Nat → Nat) (h : Nat → Nat) (qs : Nat → Nat → Nat) (t : Nat → Nat) (gr : Nat → Nat) (u : Nat → Nat) (tr : Nat → Nat) (oc : Nat → Nat) (Sw : Nat → Nat → Int32) (S : Nat → Nat → Int32) (Z : Nat → Nat → Int32) (Sh : Nat → Nat → Int32) (Hs : Nat → Nat → Nat → Int32) (X : Nat → Nat → Int32) (Gg : Nat → Nat → Int32) (U : Nat → Nat → Int32) (K : Nat → Nat → Int32) (O : Nat → Nat → Int32) (x : Int32) (hb9 : x < nI 33 ∨ ¬ x ≤ nI 126) : RWx l yL_append wsL_append 8 G T sz ([(ao, .inl (T 3, 1, .inr (.inl f)))] ++ oC T (w, q, qz, h, qs, t, gr, u, tr, oc) (Sw, S, Z, Sh, Hs, X, Gg, U, K, O)) [.ref (w 0), .int x, .ref ao] (nI 1) ([(ao, .inl (T 3, 1, .inr (.inl f)))] ++ oC T (w, q, qz, h, qs, t, gr, u, tr, oc) (Sw, S, Z, Sh, Hs, X, Gg, U, K, O)) := by
  refine met_vx (vx_ofWH (cc := cL_append) (maxL := 4) (ret := (some .int)) (by decide) rfl ?_)
  intro p e s m args below meth c s₁ B hml hv
  obtain ⟨ha, ⟨⟨hsz, hP, hK, hD0, hE0⟩, hC⟩, hN9⟩ := hv
  have hx := B.exec
  have hb := B.bytes
  have hr := B.returns
  have hlocks := B.notSynchronized
  have hts := atoms_spec (ws := wsL_append) B.pre
  have htab := vx_table (x := yL_append) B (hts (.codeWith yL_append cL_append 4 (some .int) [(0, 9, 12, 15), (0, 9, 15, 17)]) List.mem_cons_self)
  have hown : s.vm.findClass RL = some m.cls := findClass_of_methodNamed B.named
  have cx : CallFix p m c cL_append 4 s args wsL_append RL := ⟨hx, hb, hml, hown, hts⟩
  subst hsz
  have hD := hD0.self (sz := s.heap.size)
  generalize hAe : va_A ([(ao, .inl (T 3, 1, .inr (.inl f)))] ++ oC T (w, q, qz, h, qs, t, gr, u, tr, oc) (Sw, S, Z, Sh, Hs, X, Gg, U, K, O)) s.heap.size = A at hD hE0 ⊢
  have hE : gE A s s.heap := hE0
  have hA : ∀ q : Nat, s.heap.size ≤ q → A q := fun q h => by rw [← hAe]; exact Or.inr h
  have hS : va_S A s.heap s.heap [] := va_S.rf
  refine w_entry ha (Nat.le_of_ble_eq_true rfl) (fun ls hl => ?_)
  refine w_q (fun Q0 hQ => ?_)
  have hl : lv_has ls 4 [(0, .ref (w 0)), (1, .int x), (2, .ref ao)] := hl
  refine w_h (fun H locs hHe hLe => ?_)
  have hP : va_P G vwCl ([(ao, .inl (T 3, 1, .inr (.inl f)))] ++ oC T (w, q, qz, h, qs, t, gr, u, tr, oc) (Sw, S, Z, Sh, Hs, X, Gg, U, K, O)) H := by rw [hHe]; exact hP
  have hS : va_S A s.heap H locs := by rw [hHe, hLe]; exact hS
  refine lv_aload_n hx hb dL_append_0 rfl (lv_at hl 2 rfl) ?_
  refine n_iconst hx hb 0 dL_append_1 (by decide) ?_
  refine lv_aload_n hx hb dL_append_2 rfl (lv_at hl 0 rfl) ?_
  refine lv_iload_n hx hb dL_append_3 rfl (lv_at hl 1 rfl) ?_
  refine k_rxV (As := [.int x]) (rest := [.int (nI 0), .ref ao]) (wc := [(ao, .inl (T 3, 1, .inr (.inl f)))] ++ oC T (w, q, qz, h, qs, t, gr, u, tr, oc) (Sw, S, Z, Sh, Hs, X, Gg, U, K, O)) (wr := []) (w1 := [(ao, .inl (T 3, 1, .inr (.inl f)))] ++ oC T (w, q, qz, h, qs, t, gr, u, tr, oc) (Sw, S, Z, Sh, Hs, X, Gg, U, K, O)) (d := 7) cx (RX.fr (w_X7_append_t l hst G T H.size w q qz h qs t gr u tr oc Sw S Z Sh Hs X Gg U K O x hb9) (Fr.head [(ao, .inl (T 3, 1, .inr (.inl f)))] (oC T (w, q, qz, h, qs, t, gr, u, tr, oc) (Sw, S, Z, Sh, Hs, X, Gg, U, K, O)) (oC T (w, q, qz, h, qs, t, gr, u, tr, oc) (Sw, S, Z, Sh, Hs, X, Gg, U, K, O)))) (cwV 1 hts gL_append_X7_append rfl rfl rfl (by decide +kernel) ⟨Nat.le_of_ble_eq_true rfl, Nat.le_of_ble_eq_true rfl⟩) (kN_full hP hD hS hA hE hK) hC (va_recv hK hP (ci := 7) (q0 := 1) rfl rfl) rfl hl.1 rfl (Nat.le_of_ble_eq_true rfl) dL_append_4 ⟨Nat.le_of_ble_eq_true rfl, Nat.le_of_ble_eq_true rfl⟩ (fun E9 ce q9 H locs he hP hD hS h1 h2 h3 => ?_) (fun v H locs he => by cases he)
  cases he
  refine vx_catch (own := RL) (name := "java/lang/IllegalArgumentException") (E := "java/lang/IllegalArgumentException") hown [] ⟨0, 9, 12, 15⟩ [⟨0, 9, 15, 17⟩] (htab.trans rfl) (fun _ h9 => by cases h9) (by decide) (by decide) (hts (.classLink RL 15 "java/lang/IllegalArgumentException") (by decide +kernel)) (va_Nw.use rfl (hC.1 "java/lang/IllegalArgumentException" (by decide))) h1 h2 h3 ?_
  refine lv_astore_n (lv' := [(3, .ref q9), (0, .ref (w 0)), (1, .int x), (2, .ref ao)]) hx hb dL_append_12 rfl hl (by decide) rfl (fun ls hl => ?_)
  refine n_iconst hx hb 1 dL_append_13 (by decide) ?_
  subst hQ
  exact vx_ret (W.widen (k := 1) (n := 6) (by decide) (by decide) (e_rwi hx hb hr hlocks hS rfl hP hD dL_append_14))
set_option maxHeartbeats 4000000 in
set_option maxRecDepth 100000 in
theorem c_L_append_t2 (l : Launch) (hst : l.stackTraces = false) (G : va_G) (T : Nat → ClassId) (sz ao : Nat) (f : Nat → Int64) (w : Nat → Nat) (q : Nat → Nat) (qz : Nat → Nat) (h : Nat → Nat) (qs : Nat → Nat → Nat) (t : Nat → Nat) (gr : Nat → Nat) (u : Nat → Nat) (tr : Nat → Nat) (oc : Nat → Nat) (Sw : Nat → Nat → Int32) (S : Nat → Nat → Int32) (Z : Nat → Nat → Int32) (Sh : Nat → Nat → Int32) (Hs : Nat → Nat → Nat → Int32) (X : Nat → Nat → Int32) (Gg : Nat → Nat → Int32) (U : Nat → Nat → Int32) (K : Nat → Nat → Int32) (O : Nat → Nat → Int32) (n : Nat) (cc : Nat) (hlen : X 0 1 = nI n) (hn60 : n = 60) (hc33 : 33 ≤ cc) (hc126 : cc ≤ 126) : RWx l yL_append wsL_append 8 G T sz ([(ao, .inl (T 3, 1, .inr (.inl f)))] ++ oC T (w, q, qz, h, qs, t, gr, u, tr, oc) (Sw, S, Z, Sh, Hs, X, Gg, U, K, O)) [.ref (w 0), .int (nI cc), .ref ao] (nI 2) ([(ao, .inl (T 3, 1, .inr (.inl f)))] ++ oC T (w, q, qz, h, qs, t, gr, u, tr, oc) (Sw, S, Z, Sh, Hs, X, Gg, U, K, O)) := by
  refine met_vx (vx_ofWH (cc := cL_append) (maxL := 4) (ret := (some .int)) (by decide) rfl ?_)
  intro p e s m args below meth c s₁ B hml hv
  obtain ⟨ha, ⟨⟨hsz, hP, hK, hD0, hE0⟩, hC⟩, hN9⟩ := hv
  have hx := B.exec
  have hb := B.bytes
  have hr := B.returns
  have hlocks := B.notSynchronized
  have hts := atoms_spec (ws := wsL_append) B.pre
  have htab := vx_table (x := yL_append) B (hts (.codeWith yL_append cL_append 4 (some .int) [(0, 9, 12, 15), (0, 9, 15, 17)]) List.mem_cons_self)
  have hown : s.vm.findClass RL = some m.cls := findClass_of_methodNamed B.named
  have cx : CallFix p m c cL_append 4 s args wsL_append RL := ⟨hx, hb, hml, hown, hts⟩
  subst hsz
  have hD := hD0.self (sz := s.heap.size)
  generalize hAe : va_A ([(ao, .inl (T 3, 1, .inr (.inl f)))] ++ oC T (w, q, qz, h, qs, t, gr, u, tr, oc) (Sw, S, Z, Sh, Hs, X, Gg, U, K, O)) s.heap.size = A at hD hE0 ⊢
  have hE : gE A s s.heap := hE0
  have hA : ∀ q : Nat, s.heap.size ≤ q → A q := fun q h => by rw [← hAe]; exact Or.inr h
  have hS : va_S A s.heap s.heap [] := va_S.rf
  refine w_entry ha (Nat.le_of_ble_eq_true rfl) (fun ls hl => ?_)
  refine w_q (fun Q0 hQ => ?_)
  have hl : lv_has ls 4 [(0, .ref (w 0)), (1, .int (nI cc)), (2, .ref ao)] := hl
  refine w_h (fun H locs hHe hLe => ?_)
  have hP : va_P G vwCl ([(ao, .inl (T 3, 1, .inr (.inl f)))] ++ oC T (w, q, qz, h, qs, t, gr, u, tr, oc) (Sw, S, Z, Sh, Hs, X, Gg, U, K, O)) H := by rw [hHe]; exact hP
  have hS : va_S A s.heap H locs := by rw [hHe, hLe]; exact hS
  refine lv_aload_n hx hb dL_append_0 rfl (lv_at hl 2 rfl) ?_
  refine n_iconst hx hb 0 dL_append_1 (by decide) ?_
  refine lv_aload_n hx hb dL_append_2 rfl (lv_at hl 0 rfl) ?_
  refine lv_iload_n hx hb dL_append_3 rfl (lv_at hl 1 rfl) ?_
  refine k_rxV (As := [.int (nI cc)]) (rest := [.int (nI 0), .ref ao]) (wc := [(ao, .inl (T 3, 1, .inr (.inl f)))] ++ oC T (w, q, qz, h, qs, t, gr, u, tr, oc) (Sw, S, Z, Sh, Hs, X, Gg, U, K, O)) (wr := []) (w1 := [(ao, .inl (T 3, 1, .inr (.inl f)))] ++ oC T (w, q, qz, h, qs, t, gr, u, tr, oc) (Sw, S, Z, Sh, Hs, X, Gg, U, K, O)) (d := 7) cx (RX.fr (w_X7_append_t2 l hst G T H.size w q qz h qs t gr u tr oc Sw S Z Sh Hs X Gg U K O n cc hlen hn60 hc33 hc126) (Fr.head [(ao, .inl (T 3, 1, .inr (.inl f)))] (oC T (w, q, qz, h, qs, t, gr, u, tr, oc) (Sw, S, Z, Sh, Hs, X, Gg, U, K, O)) (oC T (w, q, qz, h, qs, t, gr, u, tr, oc) (Sw, S, Z, Sh, Hs, X, Gg, U, K, O)))) (cwV 1 hts gL_append_X7_append rfl rfl rfl (by decide +kernel) ⟨Nat.le_of_ble_eq_true rfl, Nat.le_of_ble_eq_true rfl⟩) (kN_full hP hD hS hA hE hK) hC (va_recv hK hP (ci := 7) (q0 := 1) rfl rfl) rfl hl.1 rfl (Nat.le_of_ble_eq_true rfl) dL_append_4 ⟨Nat.le_of_ble_eq_true rfl, Nat.le_of_ble_eq_true rfl⟩ (fun E9 ce q9 H locs he hP hD hS h1 h2 h3 => ?_) (fun v H locs he => by cases he)
  cases he
  refine vx_catch (own := RL) (name := "java/lang/IllegalStateException") (E := "java/lang/IllegalStateException") hown [⟨0, 9, 12, 15⟩] ⟨0, 9, 15, 17⟩ [] (htab.trans rfl) (List.forall_mem_cons.mpr ⟨Or.inr ⟨by decide, "java/lang/IllegalArgumentException", hts (.classLink RL 15 "java/lang/IllegalArgumentException") (by decide +kernel), hN9.2.2⟩, (fun _ h9 => by cases h9)⟩) (by decide) (by decide) (hts (.classLink RL 17 "java/lang/IllegalStateException") (by decide +kernel)) (va_Nw.use rfl (hC.1 "java/lang/IllegalStateException" (by decide))) h1 h2 h3 ?_
  refine lv_astore_n (lv' := [(3, .ref q9), (0, .ref (w 0)), (1, .int (nI cc)), (2, .ref ao)]) hx hb dL_append_15 rfl hl (by decide) rfl (fun ls hl => ?_)
  refine n_iconst hx hb 2 dL_append_16 (by decide) ?_
  subst hQ
  exact vx_ret (W.widen (k := 1) (n := 6) (by decide) (by decide) (e_rwi hx hb hr hlocks hS rfl hP hD dL_append_17))
set_option maxHeartbeats 4000000 in
set_option maxRecDepth 100000 in
theorem c_L_restore (l : Launch) (hst : l.stackTraces = false) (G : va_G) (T : Nat → ClassId) (sz ao : Nat) (f : Nat → Int64) (w : Nat → Nat) (q : Nat → Nat) (qz : Nat → Nat) (h : Nat → Nat) (qs : Nat → Nat → Nat) (t : Nat → Nat) (gr : Nat → Nat) (u : Nat → Nat) (tr : Nat → Nat) (oc : Nat → Nat) (Sw : Nat → Nat → Int32) (S : Nat → Nat → Int32) (Z : Nat → Nat → Int32) (Sh : Nat → Nat → Int32) (Hs : Nat → Nat → Nat → Int32) (X : Nat → Nat → Int32) (Gg : Nat → Nat → Int32) (U : Nat → Nat → Int32) (K : Nat → Nat → Int32) (O : Nat → Nat → Int32) (o : Nat) (n : Nat) (ho : Sh 0 1 = nI o) (hn : Sh 0 2 = nI n) (ho6 : o < 6) (hn6 : n ≤ 6) (hsn : Sw 0 8 = nI 1) : RWx l yL_restore wsL_restore 4 G T sz ([(ao, .inl (T 3, 1, .inr (.inl f)))] ++ oC T (w, q, qz, h, qs, t, gr, u, tr, oc) (Sw, S, Z, Sh, Hs, X, Gg, U, K, O)) [.ref (w 0), .ref ao] (nI 0) ([(ao, .inl (T 3, 1, .inr (.inl (vp_updL f 0 ((Z 0 0)).toInt64))))] ++ oC T (w, q, qz, h, qs, t, gr, u, tr, oc) (Sw, Z, Z, sc (sc Sh 1 (nI (hPo o n))) 2 (nI (hPn n)), updS Hs (hPi o n) S, X, Gg, U, K, O)) := by
  refine met_vx (vx_ofWH (cc := cL_restore) (maxL := 3) (ret := (some .int)) (by decide) rfl ?_)
  intro p e s m args below meth c s₁ B hml hv
  obtain ⟨ha, ⟨⟨hsz, hP, hK, hD0, hE0⟩, hC⟩, hN9⟩ := hv
  have hx := B.exec
  have hb := B.bytes
  have hr := B.returns
  have hlocks := B.notSynchronized
  have hts := atoms_spec (ws := wsL_restore) B.pre
  have htab := vx_table (x := yL_restore) B (hts (.codeWith yL_restore cL_restore 3 (some .int) [(0, 8, 11, 17)]) List.mem_cons_self)
  have hown : s.vm.findClass RL = some m.cls := findClass_of_methodNamed B.named
  have cx : CallFix p m c cL_restore 3 s args wsL_restore RL := ⟨hx, hb, hml, hown, hts⟩
  subst hsz
  have hD := hD0.self (sz := s.heap.size)
  generalize hAe : va_A ([(ao, .inl (T 3, 1, .inr (.inl f)))] ++ oC T (w, q, qz, h, qs, t, gr, u, tr, oc) (Sw, S, Z, Sh, Hs, X, Gg, U, K, O)) s.heap.size = A at hD hE0 ⊢
  have hE : gE A s s.heap := hE0
  have hA : ∀ q : Nat, s.heap.size ≤ q → A q := fun q h => by rw [← hAe]; exact Or.inr h
  have hS : va_S A s.heap s.heap [] := va_S.rf
  refine w_entry ha (Nat.le_of_ble_eq_true rfl) (fun ls hl => ?_)
  refine w_q (fun Q0 hQ => ?_)
  have hl : lv_has ls 3 [(0, .ref (w 0)), (1, .ref ao)] := hl
  refine w_h (fun H locs hHe hLe => ?_)
  have hP : va_P G vwCl ([(ao, .inl (T 3, 1, .inr (.inl f)))] ++ oC T (w, q, qz, h, qs, t, gr, u, tr, oc) (Sw, S, Z, Sh, Hs, X, Gg, U, K, O)) H := by rw [hHe]; exact hP
  have hS : va_S A s.heap H locs := by rw [hHe, hLe]; exact hS
  refine lv_aload_n hx hb dL_restore_0 rfl (lv_at hl 1 rfl) ?_
  refine n_iconst hx hb 0 dL_restore_1 (by decide) ?_
  refine lv_aload_n hx hb dL_restore_2 rfl (lv_at hl 0 rfl) ?_
  refine k_rwV (As := []) (rest := [.int (nI 0), .ref ao]) (wc := [(ao, .inl (T 3, 1, .inr (.inl f)))] ++ oC T (w, q, qz, h, qs, t, gr, u, tr, oc) (Sw, S, Z, Sh, Hs, X, Gg, U, K, O)) (wr := []) (w1 := [(ao, .inl (T 3, 1, .inr (.inl f)))] ++ oC T (w, q, qz, h, qs, t, gr, u, tr, oc) (Sw, Z, Z, sc (sc Sh 1 (nI (hPo o n))) 2 (nI (hPn n)), updS Hs (hPi o n) S, X, Gg, U, K, O)) (d := 3) (mc := 0) (ms := 0) (v := Z 0 0) cx (RWi.fr (w_X7_restore l G T H.size w q qz h qs t gr u tr oc Sw S Z Sh Hs X Gg U K O o n ho hn ho6 hn6 hsn) (Fr.head [(ao, .inl (T 3, 1, .inr (.inl f)))] (oC T (w, q, qz, h, qs, t, gr, u, tr, oc) (Sw, S, Z, Sh, Hs, X, Gg, U, K, O)) (oC T (w, q, qz, h, qs, t, gr, u, tr, oc) (Sw, Z, Z, sc (sc Sh 1 (nI (hPo o n))) 2 (nI (hPn n)), updS Hs (hPi o n) S, X, Gg, U, K, O)))) (cwV 0 hts gL_restore_X7_restore rfl rfl rfl (by decide +kernel) ⟨Nat.le_of_ble_eq_true rfl, Nat.le_of_ble_eq_true rfl⟩) (kN_full hP hD hS hA hE hK) (va_recv hK hP (ci := 7) (q0 := 1) rfl rfl) rfl hl.1 rfl (Nat.le_of_ble_eq_true rfl) dL_restore_3 ⟨Nat.le_of_ble_eq_true rfl, Nat.le_of_ble_eq_true rfl⟩ (fun H locs hP hD hS hz => ?_)
  have hP : va_P G vwCl ([(ao, .inl (T 3, 1, .inr (.inl f)))] ++ oC T (w, q, qz, h, qs, t, gr, u, tr, oc) (Sw, Z, Z, sc (sc Sh 1 (nI (hPo o n))) 2 (nI (hPn n)), updS Hs (hPi o n) S, X, Gg, U, K, O)) H := hP
  have hD : va_D A ([(ao, .inl (T 3, 1, .inr (.inl f)))] ++ oC T (w, q, qz, h, qs, t, gr, u, tr, oc) (Sw, Z, Z, sc (sc Sh 1 (nI (hPo o n))) 2 (nI (hPn n)), updS Hs (hPi o n) S, X, Gg, U, K, O)) := hD
  refine lv_i2l (v := (Z 0 0).toInt64) hx hb dL_restore_6 rfl ?_
  refine va_last hx hb hK hP hD hS 0 3 rfl rfl (vp_in_nI (show 0 < 1 by decide) (by decide)) dL_restore_7 (fun H locs hP hD hS => ?_)
  have hP : va_P G vwCl ([(ao, .inl (T 3, 1, .inr (.inl (vp_updL f 0 ((Z 0 0)).toInt64))))] ++ oC T (w, q, qz, h, qs, t, gr, u, tr, oc) (Sw, Z, Z, sc (sc Sh 1 (nI (hPo o n))) 2 (nI (hPn n)), updS Hs (hPi o n) S, X, Gg, U, K, O)) H := hP
  have hD : va_D A ([(ao, .inl (T 3, 1, .inr (.inl (vp_updL f 0 ((Z 0 0)).toInt64))))] ++ oC T (w, q, qz, h, qs, t, gr, u, tr, oc) (Sw, Z, Z, sc (sc Sh 1 (nI (hPo o n))) 2 (nI (hPn n)), updS Hs (hPi o n) S, X, Gg, U, K, O)) := hD
  refine lv_goto (tgt := 14) hx hb dL_restore_8 (by decide) ?_
  refine n_iconst hx hb 0 dL_restore_14 (by decide) ?_
  subst hQ
  exact vx_ret (W.widen (k := 1) (n := 6) (by decide) (by decide) (e_rwi hx hb hr hlocks hS rfl hP hD dL_restore_15))
set_option maxHeartbeats 4000000 in
set_option maxRecDepth 100000 in
theorem c_L_restore_t (l : Launch) (hst : l.stackTraces = false) (G : va_G) (T : Nat → ClassId) (sz ao : Nat) (f : Nat → Int64) (w : Nat → Nat) (q : Nat → Nat) (qz : Nat → Nat) (h : Nat → Nat) (qs : Nat → Nat → Nat) (t : Nat → Nat) (gr : Nat → Nat) (u : Nat → Nat) (tr : Nat → Nat) (oc : Nat → Nat) (Sw : Nat → Nat → Int32) (S : Nat → Nat → Int32) (Z : Nat → Nat → Int32) (Sh : Nat → Nat → Int32) (Hs : Nat → Nat → Nat → Int32) (X : Nat → Nat → Int32) (Gg : Nat → Nat → Int32) (U : Nat → Nat → Int32) (K : Nat → Nat → Int32) (O : Nat → Nat → Int32) (hsn : Sw 0 8 = nI 0) : RWx l yL_restore wsL_restore 8 G T sz ([(ao, .inl (T 3, 1, .inr (.inl f)))] ++ oC T (w, q, qz, h, qs, t, gr, u, tr, oc) (Sw, S, Z, Sh, Hs, X, Gg, U, K, O)) [.ref (w 0), .ref ao] (nI 1) ([(ao, .inl (T 3, 1, .inr (.inl f)))] ++ oC T (w, q, qz, h, qs, t, gr, u, tr, oc) (Sw, S, Z, Sh, Hs, X, Gg, U, K, O)) := by
  refine met_vx (vx_ofWH (cc := cL_restore) (maxL := 3) (ret := (some .int)) (by decide) rfl ?_)
  intro p e s m args below meth c s₁ B hml hv
  obtain ⟨ha, ⟨⟨hsz, hP, hK, hD0, hE0⟩, hC⟩, hN9⟩ := hv
  have hx := B.exec
  have hb := B.bytes
  have hr := B.returns
  have hlocks := B.notSynchronized
  have hts := atoms_spec (ws := wsL_restore) B.pre
  have htab := vx_table (x := yL_restore) B (hts (.codeWith yL_restore cL_restore 3 (some .int) [(0, 8, 11, 17)]) List.mem_cons_self)
  have hown : s.vm.findClass RL = some m.cls := findClass_of_methodNamed B.named
  have cx : CallFix p m c cL_restore 3 s args wsL_restore RL := ⟨hx, hb, hml, hown, hts⟩
  subst hsz
  have hD := hD0.self (sz := s.heap.size)
  generalize hAe : va_A ([(ao, .inl (T 3, 1, .inr (.inl f)))] ++ oC T (w, q, qz, h, qs, t, gr, u, tr, oc) (Sw, S, Z, Sh, Hs, X, Gg, U, K, O)) s.heap.size = A at hD hE0 ⊢
  have hE : gE A s s.heap := hE0
  have hA : ∀ q : Nat, s.heap.size ≤ q → A q := fun q h => by rw [← hAe]; exact Or.inr h
  have hS : va_S A s.heap s.heap [] := va_S.rf
  refine w_entry ha (Nat.le_of_ble_eq_true rfl) (fun ls hl => ?_)
  refine w_q (fun Q0 hQ => ?_)
  have hl : lv_has ls 3 [(0, .ref (w 0)), (1, .ref ao)] := hl
  refine w_h (fun H locs hHe hLe => ?_)
  have hP : va_P G vwCl ([(ao, .inl (T 3, 1, .inr (.inl f)))] ++ oC T (w, q, qz, h, qs, t, gr, u, tr, oc) (Sw, S, Z, Sh, Hs, X, Gg, U, K, O)) H := by rw [hHe]; exact hP
  have hS : va_S A s.heap H locs := by rw [hHe, hLe]; exact hS
  refine lv_aload_n hx hb dL_restore_0 rfl (lv_at hl 1 rfl) ?_
  refine n_iconst hx hb 0 dL_restore_1 (by decide) ?_
  refine lv_aload_n hx hb dL_restore_2 rfl (lv_at hl 0 rfl) ?_
  refine k_rxV (As := []) (rest := [.int (nI 0), .ref ao]) (wc := [(ao, .inl (T 3, 1, .inr (.inl f)))] ++ oC T (w, q, qz, h, qs, t, gr, u, tr, oc) (Sw, S, Z, Sh, Hs, X, Gg, U, K, O)) (wr := []) (w1 := [(ao, .inl (T 3, 1, .inr (.inl f)))] ++ oC T (w, q, qz, h, qs, t, gr, u, tr, oc) (Sw, S, Z, Sh, Hs, X, Gg, U, K, O)) (d := 7) cx (RX.fr (w_X7_restore_t l hst G T H.size w q qz h qs t gr u tr oc Sw S Z Sh Hs X Gg U K O hsn) (Fr.head [(ao, .inl (T 3, 1, .inr (.inl f)))] (oC T (w, q, qz, h, qs, t, gr, u, tr, oc) (Sw, S, Z, Sh, Hs, X, Gg, U, K, O)) (oC T (w, q, qz, h, qs, t, gr, u, tr, oc) (Sw, S, Z, Sh, Hs, X, Gg, U, K, O)))) (cwV 0 hts gL_restore_X7_restore rfl rfl rfl (by decide +kernel) ⟨Nat.le_of_ble_eq_true rfl, Nat.le_of_ble_eq_true rfl⟩) (kN_full hP hD hS hA hE hK) hC (va_recv hK hP (ci := 7) (q0 := 1) rfl rfl) rfl hl.1 rfl (Nat.le_of_ble_eq_true rfl) dL_restore_3 ⟨Nat.le_of_ble_eq_true rfl, Nat.le_of_ble_eq_true rfl⟩ (fun E9 ce q9 H locs he hP hD hS h1 h2 h3 => ?_) (fun v H locs he => by cases he)
  cases he
  refine vx_catch (own := RL) (name := "java/lang/IllegalStateException") (E := "java/lang/IllegalStateException") hown [] ⟨0, 8, 11, 17⟩ [] (htab.trans rfl) (fun _ h9 => by cases h9) (by decide) (by decide) (hts (.classLink RL 17 "java/lang/IllegalStateException") (by decide +kernel)) (va_Nw.use rfl (hC.1 "java/lang/IllegalStateException" (by decide))) h1 h2 h3 ?_
  refine lv_astore_n (lv' := [(2, .ref q9), (0, .ref (w 0)), (1, .ref ao)]) hx hb dL_restore_11 rfl hl (by decide) rfl (fun ls hl => ?_)
  refine n_iconst hx hb 1 dL_restore_12 (by decide) ?_
  subst hQ
  exact vx_ret (W.widen (k := 1) (n := 6) (by decide) (by decide) (e_rwi hx hb hr hlocks hS rfl hP hD dL_restore_13))
set_option maxHeartbeats 4000000 in
set_option maxRecDepth 100000 in
theorem c_L_undo (l : Launch) (hst : l.stackTraces = false) (G : va_G) (T : Nat → ClassId) (sz ao : Nat) (f : Nat → Int64) (w : Nat → Nat) (q : Nat → Nat) (qz : Nat → Nat) (h : Nat → Nat) (qs : Nat → Nat → Nat) (t : Nat → Nat) (gr : Nat → Nat) (u : Nat → Nat) (tr : Nat → Nat) (oc : Nat → Nat) (Sw : Nat → Nat → Int32) (S : Nat → Nat → Int32) (Z : Nat → Nat → Int32) (Sh : Nat → Nat → Int32) (Hs : Nat → Nat → Nat → Int32) (X : Nat → Nat → Int32) (Gg : Nat → Nat → Int32) (U : Nat → Nat → Int32) (K : Nat → Nat → Int32) (O : Nat → Nat → Int32) (o : Nat) (n : Nat) (ho : Sh 0 1 = nI o) (hn : Sh 0 2 = nI n) (ho6 : o < 6) (hn6 : n ≤ 6) (hn0 : 0 < n) : RWx l yL_undo wsL_undo 4 G T sz ([(ao, .inl (T 3, 1, .inr (.inl f)))] ++ oC T (w, q, qz, h, qs, t, gr, u, tr, oc) (Sw, S, Z, Sh, Hs, X, Gg, U, K, O)) [.ref (w 0), .ref ao] (nI 0) ([(ao, .inl (T 3, 1, .inr (.inl (vp_updL f 0 ((nI (n - 1))).toInt64))))] ++ oC T (w, q, qz, h, qs, t, gr, u, tr, oc) (Sw, Hs ((o + (n - 1)) % 6), Z, sc Sh 2 (nI (n - 1)), Hs, X, Gg, U, K, O)) := by
  refine met_vx (vx_ofWH (cc := cL_undo) (maxL := 3) (ret := (some .int)) (by decide) rfl ?_)
  intro p e s m args below meth c s₁ B hml hv
  obtain ⟨ha, ⟨⟨hsz, hP, hK, hD0, hE0⟩, hC⟩, hN9⟩ := hv
  have hx := B.exec
  have hb := B.bytes
  have hr := B.returns
  have hlocks := B.notSynchronized
  have hts := atoms_spec (ws := wsL_undo) B.pre
  have htab := vx_table (x := yL_undo) B (hts (.codeWith yL_undo cL_undo 3 (some .int) [(0, 8, 11, 17)]) List.mem_cons_self)
  have hown : s.vm.findClass RL = some m.cls := findClass_of_methodNamed B.named
  have cx : CallFix p m c cL_undo 3 s args wsL_undo RL := ⟨hx, hb, hml, hown, hts⟩
  subst hsz
  have hD := hD0.self (sz := s.heap.size)
  generalize hAe : va_A ([(ao, .inl (T 3, 1, .inr (.inl f)))] ++ oC T (w, q, qz, h, qs, t, gr, u, tr, oc) (Sw, S, Z, Sh, Hs, X, Gg, U, K, O)) s.heap.size = A at hD hE0 ⊢
  have hE : gE A s s.heap := hE0
  have hA : ∀ q : Nat, s.heap.size ≤ q → A q := fun q h => by rw [← hAe]; exact Or.inr h
  have hS : va_S A s.heap s.heap [] := va_S.rf
  refine w_entry ha (Nat.le_of_ble_eq_true rfl) (fun ls hl => ?_)
  refine w_q (fun Q0 hQ => ?_)
  have hl : lv_has ls 3 [(0, .ref (w 0)), (1, .ref ao)] := hl
  refine w_h (fun H locs hHe hLe => ?_)
  have hP : va_P G vwCl ([(ao, .inl (T 3, 1, .inr (.inl f)))] ++ oC T (w, q, qz, h, qs, t, gr, u, tr, oc) (Sw, S, Z, Sh, Hs, X, Gg, U, K, O)) H := by rw [hHe]; exact hP
  have hS : va_S A s.heap H locs := by rw [hHe, hLe]; exact hS
  refine lv_aload_n hx hb dL_undo_0 rfl (lv_at hl 1 rfl) ?_
  refine n_iconst hx hb 0 dL_undo_1 (by decide) ?_
  refine lv_aload_n hx hb dL_undo_2 rfl (lv_at hl 0 rfl) ?_
  refine k_rwV (As := []) (rest := [.int (nI 0), .ref ao]) (wc := [(ao, .inl (T 3, 1, .inr (.inl f)))] ++ oC T (w, q, qz, h, qs, t, gr, u, tr, oc) (Sw, S, Z, Sh, Hs, X, Gg, U, K, O)) (wr := []) (w1 := [(ao, .inl (T 3, 1, .inr (.inl f)))] ++ oC T (w, q, qz, h, qs, t, gr, u, tr, oc) (Sw, Hs ((o + (n - 1)) % 6), Z, sc Sh 2 (nI (n - 1)), Hs, X, Gg, U, K, O)) (d := 3) (mc := 0) (ms := 0) (v := nI (n - 1)) cx (RWi.fr (w_X7_undo l G T H.size w q qz h qs t gr u tr oc Sw S Z Sh Hs X Gg U K O o n ho hn ho6 hn6 hn0) (Fr.head [(ao, .inl (T 3, 1, .inr (.inl f)))] (oC T (w, q, qz, h, qs, t, gr, u, tr, oc) (Sw, S, Z, Sh, Hs, X, Gg, U, K, O)) (oC T (w, q, qz, h, qs, t, gr, u, tr, oc) (Sw, Hs ((o + (n - 1)) % 6), Z, sc Sh 2 (nI (n - 1)), Hs, X, Gg, U, K, O)))) (cwV 0 hts gL_undo_X7_undo rfl rfl rfl (by decide +kernel) ⟨Nat.le_of_ble_eq_true rfl, Nat.le_of_ble_eq_true rfl⟩) (kN_full hP hD hS hA hE hK) (va_recv hK hP (ci := 7) (q0 := 1) rfl rfl) rfl hl.1 rfl (Nat.le_of_ble_eq_true rfl) dL_undo_3 ⟨Nat.le_of_ble_eq_true rfl, Nat.le_of_ble_eq_true rfl⟩ (fun H locs hP hD hS hz => ?_)
  have hP : va_P G vwCl ([(ao, .inl (T 3, 1, .inr (.inl f)))] ++ oC T (w, q, qz, h, qs, t, gr, u, tr, oc) (Sw, Hs ((o + (n - 1)) % 6), Z, sc Sh 2 (nI (n - 1)), Hs, X, Gg, U, K, O)) H := hP
  have hD : va_D A ([(ao, .inl (T 3, 1, .inr (.inl f)))] ++ oC T (w, q, qz, h, qs, t, gr, u, tr, oc) (Sw, Hs ((o + (n - 1)) % 6), Z, sc Sh 2 (nI (n - 1)), Hs, X, Gg, U, K, O)) := hD
  refine lv_i2l (v := (nI (n - 1)).toInt64) hx hb dL_undo_6 rfl ?_
  refine va_last hx hb hK hP hD hS 0 3 rfl rfl (vp_in_nI (show 0 < 1 by decide) (by decide)) dL_undo_7 (fun H locs hP hD hS => ?_)
  have hP : va_P G vwCl ([(ao, .inl (T 3, 1, .inr (.inl (vp_updL f 0 ((nI (n - 1))).toInt64))))] ++ oC T (w, q, qz, h, qs, t, gr, u, tr, oc) (Sw, Hs ((o + (n - 1)) % 6), Z, sc Sh 2 (nI (n - 1)), Hs, X, Gg, U, K, O)) H := hP
  have hD : va_D A ([(ao, .inl (T 3, 1, .inr (.inl (vp_updL f 0 ((nI (n - 1))).toInt64))))] ++ oC T (w, q, qz, h, qs, t, gr, u, tr, oc) (Sw, Hs ((o + (n - 1)) % 6), Z, sc Sh 2 (nI (n - 1)), Hs, X, Gg, U, K, O)) := hD
  refine lv_goto (tgt := 14) hx hb dL_undo_8 (by decide) ?_
  refine n_iconst hx hb 0 dL_undo_14 (by decide) ?_
  subst hQ
  exact vx_ret (W.widen (k := 1) (n := 6) (by decide) (by decide) (e_rwi hx hb hr hlocks hS rfl hP hD dL_undo_15))
