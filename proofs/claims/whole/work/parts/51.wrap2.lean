/-! the law's wrappers, on -/
set_option maxHeartbeats 4000000 in
set_option maxRecDepth 100000 in
theorem c_L_count (l : Launch) (hst : l.stackTraces = false) (G : va_G) (T : Nat → ClassId) (sz ao : Nat) (f : Nat → Int64) (w : Nat → Nat) (q : Nat → Nat) (qz : Nat → Nat) (h : Nat → Nat) (qs : Nat → Nat → Nat) (t : Nat → Nat) (gr : Nat → Nat) (u : Nat → Nat) (tr : Nat → Nat) (oc : Nat → Nat) (Sw : Nat → Nat → Int32) (S : Nat → Nat → Int32) (Z : Nat → Nat → Int32) (Sh : Nat → Nat → Int32) (Hs : Nat → Nat → Nat → Int32) (X : Nat → Nat → Int32) (Gg : Nat → Nat → Int32) (U : Nat → Nat → Int32) (K : Nat → Nat → Int32) (O : Nat → Nat → Int32) (n : Nat) (kk : Nat) (hn : Sh 0 2 = nI n) (hk9 : kk < 14) (hk3 : ¬ kk = 3) : RWx l yL_count wsL_count 3 G T sz ([(ao, .inl (T 3, 1, .inr (.inl f)))] ++ oC T (w, q, qz, h, qs, t, gr, u, tr, oc) (Sw, S, Z, Sh, Hs, X, Gg, U, K, O)) [.ref (w 0), .int (nI kk), .ref ao] (nI 0) ([(ao, .inl (T 3, 1, .inr (.inl (vp_updL f 0 ((pCt S n kk)).toInt64))))] ++ oC T (w, q, qz, h, qs, t, gr, u, tr, oc) (Sw, S, Z, Sh, Hs, X, Gg, U, K, O)) := by
  refine met_vx (vx_ofWH (cc := cL_count) (maxL := 4) (ret := (some .int)) (by decide) rfl ?_)
  intro p e s m args below meth c s₁ B hml hv
  obtain ⟨ha, ⟨⟨hsz, hP, hK, hD0, hE0⟩, hC⟩, hN9⟩ := hv
  have hx := B.exec
  have hb := B.bytes
  have hr := B.returns
  have hlocks := B.notSynchronized
  have hts := atoms_spec (ws := wsL_count) B.pre
  have htab := vx_table (x := yL_count) B (hts (.codeWith yL_count cL_count 4 (some .int) [(0, 9, 12, 15)]) List.mem_cons_self)
  have hown : s.vm.findClass RL = some m.cls := findClass_of_methodNamed B.named
  have cx : CallFix p m c cL_count 4 s args wsL_count RL := ⟨hx, hb, hml, hown, hts⟩
  subst hsz
  have hD := hD0.self (sz := s.heap.size)
  generalize hAe : va_A ([(ao, .inl (T 3, 1, .inr (.inl f)))] ++ oC T (w, q, qz, h, qs, t, gr, u, tr, oc) (Sw, S, Z, Sh, Hs, X, Gg, U, K, O)) s.heap.size = A at hD hE0 ⊢
  have hE : gE A s s.heap := hE0
  have hA : ∀ q : Nat, s.heap.size ≤ q → A q := fun q h => by rw [← hAe]; exact Or.inr h
  have hS : va_S A s.heap s.heap [] := va_S.rf
  refine w_entry ha (Nat.le_of_ble_eq_true rfl) (fun ls hl => ?_)
  refine w_q (fun Q0 hQ => ?_)
  have hl : lv_has ls 4 [(0, .ref (w 0)), (1, .int (nI kk)), (2, .ref ao)] := hl
  refine w_h (fun H locs hHe hLe => ?_)
  have hP : va_P G vwCl ([(ao, .inl (T 3, 1, .inr (.inl f)))] ++ oC T (w, q, qz, h, qs, t, gr, u, tr, oc) (Sw, S, Z, Sh, Hs, X, Gg, U, K, O)) H := by rw [hHe]; exact hP
  have hS : va_S A s.heap H locs := by rw [hHe, hLe]; exact hS
  refine lv_aload_n hx hb dL_count_0 rfl (lv_at hl 2 rfl) ?_
  refine n_iconst hx hb 0 dL_count_1 (by decide) ?_
  refine lv_aload_n hx hb dL_count_2 rfl (lv_at hl 0 rfl) ?_
  refine lv_iload_n hx hb dL_count_3 rfl (lv_at hl 1 rfl) ?_
  refine k_rwV (As := [.int (nI kk)]) (rest := [.int (nI 0), .ref ao]) (wc := [(ao, .inl (T 3, 1, .inr (.inl f)))] ++ oC T (w, q, qz, h, qs, t, gr, u, tr, oc) (Sw, S, Z, Sh, Hs, X, Gg, U, K, O)) (wr := []) (w1 := [(ao, .inl (T 3, 1, .inr (.inl f)))] ++ oC T (w, q, qz, h, qs, t, gr, u, tr, oc) (Sw, S, Z, Sh, Hs, X, Gg, U, K, O)) (d := 2) (mc := 0) (ms := 0) (v := pCt S n kk) cx (RWi.fr (w_X7_count l G T H.size w q qz h qs t gr u tr oc Sw S Z Sh Hs X Gg U K O n kk hn hk9 hk3) (Fr.head [(ao, .inl (T 3, 1, .inr (.inl f)))] (oC T (w, q, qz, h, qs, t, gr, u, tr, oc) (Sw, S, Z, Sh, Hs, X, Gg, U, K, O)) (oC T (w, q, qz, h, qs, t, gr, u, tr, oc) (Sw, S, Z, Sh, Hs, X, Gg, U, K, O)))) (cwV 1 hts gL_count_X7_count rfl rfl rfl (by decide +kernel) ⟨Nat.le_of_ble_eq_true rfl, Nat.le_of_ble_eq_true rfl⟩) (kN_full hP hD hS hA hE hK) (va_recv hK hP (ci := 7) (q0 := 1) rfl rfl) rfl hl.1 rfl (Nat.le_of_ble_eq_true rfl) dL_count_4 ⟨Nat.le_of_ble_eq_true rfl, Nat.le_of_ble_eq_true rfl⟩ (fun H locs hP hD hS hz => ?_)
  have hP : va_P G vwCl ([(ao, .inl (T 3, 1, .inr (.inl f)))] ++ oC T (w, q, qz, h, qs, t, gr, u, tr, oc) (Sw, S, Z, Sh, Hs, X, Gg, U, K, O)) H := hP
  have hD : va_D A ([(ao, .inl (T 3, 1, .inr (.inl f)))] ++ oC T (w, q, qz, h, qs, t, gr, u, tr, oc) (Sw, S, Z, Sh, Hs, X, Gg, U, K, O)) := hD
  refine lv_i2l (v := (pCt S n kk).toInt64) hx hb dL_count_7 rfl ?_
  refine va_last hx hb hK hP hD hS 0 3 rfl rfl (vp_in_nI (show 0 < 1 by decide) (by decide)) dL_count_8 (fun H locs hP hD hS => ?_)
  have hP : va_P G vwCl ([(ao, .inl (T 3, 1, .inr (.inl (vp_updL f 0 ((pCt S n kk)).toInt64))))] ++ oC T (w, q, qz, h, qs, t, gr, u, tr, oc) (Sw, S, Z, Sh, Hs, X, Gg, U, K, O)) H := hP
  have hD : va_D A ([(ao, .inl (T 3, 1, .inr (.inl (vp_updL f 0 ((pCt S n kk)).toInt64))))] ++ oC T (w, q, qz, h, qs, t, gr, u, tr, oc) (Sw, S, Z, Sh, Hs, X, Gg, U, K, O)) := hD
  refine lv_goto (tgt := 15) hx hb dL_count_9 (by decide) ?_
  refine n_iconst hx hb 0 dL_count_15 (by decide) ?_
  subst hQ
  exact vx_ret (W.widen (k := 1) (n := 6) (by decide) (by decide) (e_rwi hx hb hr hlocks hS rfl hP hD dL_count_16))
set_option maxHeartbeats 4000000 in
set_option maxRecDepth 100000 in
theorem c_L_count_t (l : Launch) (hst : l.stackTraces = false) (G : va_G) (T : Nat → ClassId) (sz ao : Nat) (f : Nat → Int64) (w : Nat → Nat) (q : Nat → Nat) (qz : Nat → Nat) (h : Nat → Nat) (qs : Nat → Nat → Nat) (t : Nat → Nat) (gr : Nat → Nat) (u : Nat → Nat) (tr : Nat → Nat) (oc : Nat → Nat) (Sw : Nat → Nat → Int32) (S : Nat → Nat → Int32) (Z : Nat → Nat → Int32) (Sh : Nat → Nat → Int32) (Hs : Nat → Nat → Nat → Int32) (X : Nat → Nat → Int32) (Gg : Nat → Nat → Int32) (U : Nat → Nat → Int32) (K : Nat → Nat → Int32) (O : Nat → Nat → Int32) (x : Int32) (hbx : pBt x 14 = false) : RWx l yL_count wsL_count 8 G T sz ([(ao, .inl (T 3, 1, .inr (.inl f)))] ++ oC T (w, q, qz, h, qs, t, gr, u, tr, oc) (Sw, S, Z, Sh, Hs, X, Gg, U, K, O)) [.ref (w 0), .int x, .ref ao] (nI 1) ([(ao, .inl (T 3, 1, .inr (.inl f)))] ++ oC T (w, q, qz, h, qs, t, gr, u, tr, oc) (Sw, S, Z, Sh, Hs, X, Gg, U, K, O)) := by
  refine met_vx (vx_ofWH (cc := cL_count) (maxL := 4) (ret := (some .int)) (by decide) rfl ?_)
  intro p e s m args below meth c s₁ B hml hv
  obtain ⟨ha, ⟨⟨hsz, hP, hK, hD0, hE0⟩, hC⟩, hN9⟩ := hv
  have hx := B.exec
  have hb := B.bytes
  have hr := B.returns
  have hlocks := B.notSynchronized
  have hts := atoms_spec (ws := wsL_count) B.pre
  have htab := vx_table (x := yL_count) B (hts (.codeWith yL_count cL_count 4 (some .int) [(0, 9, 12, 15)]) List.mem_cons_self)
  have hown : s.vm.findClass RL = some m.cls := findClass_of_methodNamed B.named
  have cx : CallFix p m c cL_count 4 s args wsL_count RL := ⟨hx, hb, hml, hown, hts⟩
  subst hsz
  have hD := hD0.self (sz := s.heap.size)
  generalize hAe : va_A ([(ao, .inl (T 3, 1, .inr (.inl f)))] ++ oC T (w, q, qz, h, qs, t, gr, u, tr, oc) (Sw, S, Z, Sh, Hs, X, Gg, U, K, O)) s.heap.size = A at hD hE0 ⊢
  have hE : gE A s s.heap := hE0
  have hA : ∀ q : Nat, s.heap.size ≤ q → A q := fun q h => by rw [← hAe]; exact Or.inr h
  have hS : va_S A s.heap s.heap [] := va_S.rf
  refine w_entry ha (Nat.le_of_ble_eq_true rfl) (fun ls hl => ?_)
  refine w_q (fun Q0 hQ => ?_)
  have hl : lv_has ls 4 [(0, .ref (w 0)), (1, .int x), (2, .ref ao)] := hl
  refine w_h (fun H locs hHe hLe => ?_)
  have hP : va_P G vwCl ([(ao, .inl (T 3, 1, .inr (.inl f)))] ++ oC T (w, q, qz, h, qs, t, gr, u, tr, oc) (Sw, S, Z, Sh, Hs, X, Gg, U, K, O)) H := by rw [hHe]; exact hP
  have hS : va_S A s.heap H locs := by rw [hHe, hLe]; exact hS
  refine lv_aload_n hx hb dL_count_0 rfl (lv_at hl 2 rfl) ?_
  refine n_iconst hx hb 0 dL_count_1 (by decide) ?_
  refine lv_aload_n hx hb dL_count_2 rfl (lv_at hl 0 rfl) ?_
  refine lv_iload_n hx hb dL_count_3 rfl (lv_at hl 1 rfl) ?_
  refine k_rxV (As := [.int x]) (rest := [.int (nI 0), .ref ao]) (wc := [(ao, .inl (T 3, 1, .inr (.inl f)))] ++ oC T (w, q, qz, h, qs, t, gr, u, tr, oc) (Sw, S, Z, Sh, Hs, X, Gg, U, K, O)) (wr := []) (w1 := [(ao, .inl (T 3, 1, .inr (.inl f)))] ++ oC T (w, q, qz, h, qs, t, gr, u, tr, oc) (Sw, S, Z, Sh, Hs, X, Gg, U, K, O)) (d := 7) cx (RX.fr (w_X7_count_t l hst G T H.size w q qz h qs t gr u tr oc Sw S Z Sh Hs X Gg U K O x hbx) (Fr.head [(ao, .inl (T 3, 1, .inr (.inl f)))] (oC T (w, q, qz, h, qs, t, gr, u, tr, oc) (Sw, S, Z, Sh, Hs, X, Gg, U, K, O)) (oC T (w, q, qz, h, qs, t, gr, u, tr, oc) (Sw, S, Z, Sh, Hs, X, Gg, U, K, O)))) (cwV 1 hts gL_count_X7_count rfl rfl rfl (by decide +kernel) ⟨Nat.le_of_ble_eq_true rfl, Nat.le_of_ble_eq_true rfl⟩) (kN_full hP hD hS hA hE hK) hC (va_recv hK hP (ci := 7) (q0 := 1) rfl rfl) rfl hl.1 rfl (Nat.le_of_ble_eq_true rfl) dL_count_4 ⟨Nat.le_of_ble_eq_true rfl, Nat.le_of_ble_eq_true rfl⟩ (fun E9 ce q9 H locs he hP hD hS h1 h2 h3 => ?_) (fun v H locs he => by cases he)
  cases he
  refine vx_catch (own := RL) (name := "java/lang/IllegalArgumentException") (E := "java/lang/IllegalArgumentException") hown [] ⟨0, 9, 12, 15⟩ [] (htab.trans rfl) (fun _ h9 => by cases h9) (by decide) (by decide) (hts (.classLink RL 15 "java/lang/IllegalArgumentException") (by decide +kernel)) (va_Nw.use rfl (hC.1 "java/lang/IllegalArgumentException" (by decide))) h1 h2 h3 ?_
  refine lv_astore_n (lv' := [(3, .ref q9), (0, .ref (w 0)), (1, .int x), (2, .ref ao)]) hx hb dL_count_12 rfl hl (by decide) rfl (fun ls hl => ?_)
  refine n_iconst hx hb 1 dL_count_13 (by decide) ?_
  subst hQ
  exact vx_ret (W.widen (k := 1) (n := 6) (by decide) (by decide) (e_rwi hx hb hr hlocks hS rfl hP hD dL_count_14))
set_option maxHeartbeats 4000000 in
set_option maxRecDepth 100000 in
theorem c_L_forget (l : Launch) (hst : l.stackTraces = false) (G : va_G) (T : Nat → ClassId) (sz ao : Nat) (f : Nat → Int64) (w : Nat → Nat) (q : Nat → Nat) (qz : Nat → Nat) (h : Nat → Nat) (qs : Nat → Nat → Nat) (t : Nat → Nat) (gr : Nat → Nat) (u : Nat → Nat) (tr : Nat → Nat) (oc : Nat → Nat) (Sw : Nat → Nat → Int32) (S : Nat → Nat → Int32) (Z : Nat → Nat → Int32) (Sh : Nat → Nat → Int32) (Hs : Nat → Nat → Nat → Int32) (X : Nat → Nat → Int32) (Gg : Nat → Nat → Int32) (U : Nat → Nat → Int32) (K : Nat → Nat → Int32) (O : Nat → Nat → Int32) (o : Nat) (n : Nat) (mm : Nat) (ho : Sh 0 1 = nI o) (hn : Sh 0 2 = nI n) (ho6 : o < 6) (hn6 : n ≤ 6) (hm20 : mm < 20) : RWx l yL_forget wsL_forget 4 G T sz ([(ao, .inl (T 3, 1, .inr (.inl f)))] ++ oC T (w, q, qz, h, qs, t, gr, u, tr, oc) (Sw, S, Z, Sh, Hs, X, Gg, U, K, O)) [.ref (w 0), .int (nI mm), .ref ao] (nI 0) ([(ao, .inl (T 3, 1, .inr (.inl (vp_updL f 0 ((S 6 mm)).toInt64))))] ++ oC T (w, q, qz, h, qs, t, gr, u, tr, oc) (Sw, sa S 6 (upd (S 6) mm (nI 0)), Z, sc (sc Sh 1 (nI (hPo o n))) 2 (nI (hPn n)), updS Hs (hPi o n) S, X, Gg, U, K, O)) := by
  refine met_vx (vx_ofWH (cc := cL_forget) (maxL := 4) (ret := (some .int)) (by decide) rfl ?_)
  intro p e s m args below meth c s₁ B hml hv
  obtain ⟨ha, ⟨⟨hsz, hP, hK, hD0, hE0⟩, hC⟩, hN9⟩ := hv
  have hx := B.exec
  have hb := B.bytes
  have hr := B.returns
  have hlocks := B.notSynchronized
  have hts := atoms_spec (ws := wsL_forget) B.pre
  have htab := vx_table (x := yL_forget) B (hts (.codeWith yL_forget cL_forget 4 (some .int) [(0, 9, 12, 13)]) List.mem_cons_self)
  have hown : s.vm.findClass RL = some m.cls := findClass_of_methodNamed B.named
  have cx : CallFix p m c cL_forget 4 s args wsL_forget RL := ⟨hx, hb, hml, hown, hts⟩
  subst hsz
  have hD := hD0.self (sz := s.heap.size)
  generalize hAe : va_A ([(ao, .inl (T 3, 1, .inr (.inl f)))] ++ oC T (w, q, qz, h, qs, t, gr, u, tr, oc) (Sw, S, Z, Sh, Hs, X, Gg, U, K, O)) s.heap.size = A at hD hE0 ⊢
  have hE : gE A s s.heap := hE0
  have hA : ∀ q : Nat, s.heap.size ≤ q → A q := fun q h => by rw [← hAe]; exact Or.inr h
  have hS : va_S A s.heap s.heap [] := va_S.rf
  refine w_entry ha (Nat.le_of_ble_eq_true rfl) (fun ls hl => ?_)
  refine w_q (fun Q0 hQ => ?_)
  have hl : lv_has ls 4 [(0, .ref (w 0)), (1, .int (nI mm)), (2, .ref ao)] := hl
  refine w_h (fun H locs hHe hLe => ?_)
  have hP : va_P G vwCl ([(ao, .inl (T 3, 1, .inr (.inl f)))] ++ oC T (w, q, qz, h, qs, t, gr, u, tr, oc) (Sw, S, Z, Sh, Hs, X, Gg, U, K, O)) H := by rw [hHe]; exact hP
  have hS : va_S A s.heap H locs := by rw [hHe, hLe]; exact hS
  refine lv_aload_n hx hb dL_forget_0 rfl (lv_at hl 2 rfl) ?_
  refine n_iconst hx hb 0 dL_forget_1 (by decide) ?_
  refine lv_aload_n hx hb dL_forget_2 rfl (lv_at hl 0 rfl) ?_
  refine lv_iload_n hx hb dL_forget_3 rfl (lv_at hl 1 rfl) ?_
  refine k_rwV (As := [.int (nI mm)]) (rest := [.int (nI 0), .ref ao]) (wc := [(ao, .inl (T 3, 1, .inr (.inl f)))] ++ oC T (w, q, qz, h, qs, t, gr, u, tr, oc) (Sw, S, Z, Sh, Hs, X, Gg, U, K, O)) (wr := []) (w1 := [(ao, .inl (T 3, 1, .inr (.inl f)))] ++ oC T (w, q, qz, h, qs, t, gr, u, tr, oc) (Sw, sa S 6 (upd (S 6) mm (nI 0)), Z, sc (sc Sh 1 (nI (hPo o n))) 2 (nI (hPn n)), updS Hs (hPi o n) S, X, Gg, U, K, O)) (d := 3) (mc := 0) (ms := 0) (v := S 6 mm) cx (RWi.fr (w_X7_forget l G T H.size w q qz h qs t gr u tr oc Sw S Z Sh Hs X Gg U K O o n mm ho hn ho6 hn6 hm20) (Fr.head [(ao, .inl (T 3, 1, .inr (.inl f)))] (oC T (w, q, qz, h, qs, t, gr, u, tr, oc) (Sw, S, Z, Sh, Hs, X, Gg, U, K, O)) (oC T (w, q, qz, h, qs, t, gr, u, tr, oc) (Sw, sa S 6 (upd (S 6) mm (nI 0)), Z, sc (sc Sh 1 (nI (hPo o n))) 2 (nI (hPn n)), updS Hs (hPi o n) S, X, Gg, U, K, O)))) (cwV 1 hts gL_forget_X7_forget rfl rfl rfl (by decide +kernel) ⟨Nat.le_of_ble_eq_true rfl, Nat.le_of_ble_eq_true rfl⟩) (kN_full hP hD hS hA hE hK) (va_recv hK hP (ci := 7) (q0 := 1) rfl rfl) rfl hl.1 rfl (Nat.le_of_ble_eq_true rfl) dL_forget_4 ⟨Nat.le_of_ble_eq_true rfl, Nat.le_of_ble_eq_true rfl⟩ (fun H locs hP hD hS hz => ?_)
  have hP : va_P G vwCl ([(ao, .inl (T 3, 1, .inr (.inl f)))] ++ oC T (w, q, qz, h, qs, t, gr, u, tr, oc) (Sw, sa S 6 (upd (S 6) mm (nI 0)), Z, sc (sc Sh 1 (nI (hPo o n))) 2 (nI (hPn n)), updS Hs (hPi o n) S, X, Gg, U, K, O)) H := hP
  have hD : va_D A ([(ao, .inl (T 3, 1, .inr (.inl f)))] ++ oC T (w, q, qz, h, qs, t, gr, u, tr, oc) (Sw, sa S 6 (upd (S 6) mm (nI 0)), Z, sc (sc Sh 1 (nI (hPo o n))) 2 (nI (hPn n)), updS Hs (hPi o n) S, X, Gg, U, K, O)) := hD
  refine lv_i2l (v := (S 6 mm).toInt64) hx hb dL_forget_7 rfl ?_
  refine va_last hx hb hK hP hD hS 0 3 rfl rfl (vp_in_nI (show 0 < 1 by decide) (by decide)) dL_forget_8 (fun H locs hP hD hS => ?_)
  have hP : va_P G vwCl ([(ao, .inl (T 3, 1, .inr (.inl (vp_updL f 0 ((S 6 mm)).toInt64))))] ++ oC T (w, q, qz, h, qs, t, gr, u, tr, oc) (Sw, sa S 6 (upd (S 6) mm (nI 0)), Z, sc (sc Sh 1 (nI (hPo o n))) 2 (nI (hPn n)), updS Hs (hPi o n) S, X, Gg, U, K, O)) H := hP
  have hD : va_D A ([(ao, .inl (T 3, 1, .inr (.inl (vp_updL f 0 ((S 6 mm)).toInt64))))] ++ oC T (w, q, qz, h, qs, t, gr, u, tr, oc) (Sw, sa S 6 (upd (S 6) mm (nI 0)), Z, sc (sc Sh 1 (nI (hPo o n))) 2 (nI (hPn n)), updS Hs (hPi o n) S, X, Gg, U, K, O)) := hD
  refine lv_goto (tgt := 15) hx hb dL_forget_9 (by decide) ?_
  refine n_iconst hx hb 0 dL_forget_15 (by decide) ?_
  subst hQ
  exact vx_ret (W.widen (k := 1) (n := 6) (by decide) (by decide) (e_rwi hx hb hr hlocks hS rfl hP hD dL_forget_16))
set_option maxHeartbeats 4000000 in
set_option maxRecDepth 100000 in
theorem c_L_forget_t (l : Launch) (hst : l.stackTraces = false) (G : va_G) (T : Nat → ClassId) (sz ao : Nat) (f : Nat → Int64) (w : Nat → Nat) (q : Nat → Nat) (qz : Nat → Nat) (h : Nat → Nat) (qs : Nat → Nat → Nat) (t : Nat → Nat) (gr : Nat → Nat) (u : Nat → Nat) (tr : Nat → Nat) (oc : Nat → Nat) (Sw : Nat → Nat → Int32) (S : Nat → Nat → Int32) (Z : Nat → Nat → Int32) (Sh : Nat → Nat → Int32) (Hs : Nat → Nat → Nat → Int32) (X : Nat → Nat → Int32) (Gg : Nat → Nat → Int32) (U : Nat → Nat → Int32) (K : Nat → Nat → Int32) (O : Nat → Nat → Int32) (x : Int32) (hbx : pBt x 20 = false) : RWx l yL_forget wsL_forget 8 G T sz ([(ao, .inl (T 3, 1, .inr (.inl f)))] ++ oC T (w, q, qz, h, qs, t, gr, u, tr, oc) (Sw, S, Z, Sh, Hs, X, Gg, U, K, O)) [.ref (w 0), .int x, .ref ao] (nI 1) ([(ao, .inl (T 3, 1, .inr (.inl f)))] ++ oC T (w, q, qz, h, qs, t, gr, u, tr, oc) (Sw, S, Z, Sh, Hs, X, Gg, U, K, O)) := by
  refine met_vx (vx_ofWH (cc := cL_forget) (maxL := 4) (ret := (some .int)) (by decide) rfl ?_)
  intro p e s m args below meth c s₁ B hml hv
  obtain ⟨ha, ⟨⟨hsz, hP, hK, hD0, hE0⟩, hC⟩, hN9⟩ := hv
  have hx := B.exec
  have hb := B.bytes
  have hr := B.returns
  have hlocks := B.notSynchronized
  have hts := atoms_spec (ws := wsL_forget) B.pre
  have htab := vx_table (x := yL_forget) B (hts (.codeWith yL_forget cL_forget 4 (some .int) [(0, 9, 12, 13)]) List.mem_cons_self)
  have hown : s.vm.findClass RL = some m.cls := findClass_of_methodNamed B.named
  have cx : CallFix p m c cL_forget 4 s args wsL_forget RL := ⟨hx, hb, hml, hown, hts⟩
  subst hsz
  have hD := hD0.self (sz := s.heap.size)
  generalize hAe : va_A ([(ao, .inl (T 3, 1, .inr (.inl f)))] ++ oC T (w, q, qz, h, qs, t, gr, u, tr, oc) (Sw, S, Z, Sh, Hs, X, Gg, U, K, O)) s.heap.size = A at hD hE0 ⊢
  have hE : gE A s s.heap := hE0
  have hA : ∀ q : Nat, s.heap.size ≤ q → A q := fun q h => by rw [← hAe]; exact Or.inr h
  have hS : va_S A s.heap s.heap [] := va_S.rf
  refine w_entry ha (Nat.le_of_ble_eq_true rfl) (fun ls hl => ?_)
  refine w_q (fun Q0 hQ => ?_)
  have hl : lv_has ls 4 [(0, .ref (w 0)), (1, .int x), (2, .ref ao)] := hl
  refine w_h (fun H locs hHe hLe => ?_)
  have hP : va_P G vwCl ([(ao, .inl (T 3, 1, .inr (.inl f)))] ++ oC T (w, q, qz, h, qs, t, gr, u, tr, oc) (Sw, S, Z, Sh, Hs, X, Gg, U, K, O)) H := by rw [hHe]; exact hP
  have hS : va_S A s.heap H locs := by rw [hHe, hLe]; exact hS
  refine lv_aload_n hx hb dL_forget_0 rfl (lv_at hl 2 rfl) ?_
  refine n_iconst hx hb 0 dL_forget_1 (by decide) ?_
  refine lv_aload_n hx hb dL_forget_2 rfl (lv_at hl 0 rfl) ?_
  refine lv_iload_n hx hb dL_forget_3 rfl (lv_at hl 1 rfl) ?_
  refine k_rxV (As := [.int x]) (rest := [.int (nI 0), .ref ao]) (wc := [(ao, .inl (T 3, 1, .inr (.inl f)))] ++ oC T (w, q, qz, h, qs, t, gr, u, tr, oc) (Sw, S, Z, Sh, Hs, X, Gg, U, K, O)) (wr := []) (w1 := [(ao, .inl (T 3, 1, .inr (.inl f)))] ++ oC T (w, q, qz, h, qs, t, gr, u, tr, oc) (Sw, S, Z, Sh, Hs, X, Gg, U, K, O)) (d := 7) cx (RX.fr (w_X7_forget_t l hst G T H.size w q qz h qs t gr u tr oc Sw S Z Sh Hs X Gg U K O x hbx) (Fr.head [(ao, .inl (T 3, 1, .inr (.inl f)))] (oC T (w, q, qz, h, qs, t, gr, u, tr, oc) (Sw, S, Z, Sh, Hs, X, Gg, U, K, O)) (oC T (w, q, qz, h, qs, t, gr, u, tr, oc) (Sw, S, Z, Sh, Hs, X, Gg, U, K, O)))) (cwV 1 hts gL_forget_X7_forget rfl rfl rfl (by decide +kernel) ⟨Nat.le_of_ble_eq_true rfl, Nat.le_of_ble_eq_true rfl⟩) (kN_full hP hD hS hA hE hK) hC (va_recv hK hP (ci := 7) (q0 := 1) rfl rfl) rfl hl.1 rfl (Nat.le_of_ble_eq_true rfl) dL_forget_4 ⟨Nat.le_of_ble_eq_true rfl, Nat.le_of_ble_eq_true rfl⟩ (fun E9 ce q9 H locs he hP hD hS h1 h2 h3 => ?_) (fun v H locs he => by cases he)
  cases he
  refine vx_catch (own := RL) (name := "java/lang/IndexOutOfBoundsException") (E := "java/lang/IndexOutOfBoundsException") hown [] ⟨0, 9, 12, 13⟩ [] (htab.trans rfl) (fun _ h9 => by cases h9) (by decide) (by decide) (hts (.classLink RL 13 "java/lang/IndexOutOfBoundsException") (by decide +kernel)) (va_Nw.use rfl (hC.1 "java/lang/IndexOutOfBoundsException" (by decide))) h1 h2 h3 ?_
  refine lv_astore_n (lv' := [(3, .ref q9), (0, .ref (w 0)), (1, .int x), (2, .ref ao)]) hx hb dL_forget_12 rfl hl (by decide) rfl (fun ls hl => ?_)
  refine n_iconst hx hb 1 dL_forget_13 (by decide) ?_
  subst hQ
  exact vx_ret (W.widen (k := 1) (n := 6) (by decide) (by decide) (e_rwi hx hb hr hlocks hS rfl hP hD dL_forget_14))
set_option maxHeartbeats 4000000 in
set_option maxRecDepth 100000 in
theorem c_L_key (l : Launch) (hst : l.stackTraces = false) (G : va_G) (T : Nat → ClassId) (sz ao : Nat) (f : Nat → Int64) (w : Nat → Nat) (q : Nat → Nat) (qz : Nat → Nat) (h : Nat → Nat) (qs : Nat → Nat → Nat) (t : Nat → Nat) (gr : Nat → Nat) (u : Nat → Nat) (tr : Nat → Nat) (oc : Nat → Nat) (Sw : Nat → Nat → Int32) (S : Nat → Nat → Int32) (Z : Nat → Nat → Int32) (Sh : Nat → Nat → Int32) (Hs : Nat → Nat → Nat → Int32) (X : Nat → Nat → Int32) (Gg : Nat → Nat → Int32) (U : Nat → Nat → Int32) (K : Nat → Nat → Int32) (O : Nat → Nat → Int32) (o : Nat) (n : Nat) (kk : Nat) (ho : Sh 0 1 = nI o) (hn : Sh 0 2 = nI n) (ho6 : o < 6) (hn6 : n ≤ 6) (hk9 : kk < 7) : RWx l yL_key wsL_key 4 G T sz ([(ao, .inl (T 3, 1, .inr (.inl f)))] ++ oC T (w, q, qz, h, qs, t, gr, u, tr, oc) (Sw, S, Z, Sh, Hs, X, Gg, U, K, O)) [.ref (w 0), .int (nI kk), .ref ao] (nI 0) ([(ao, .inl (T 3, 1, .inr (.inl (vp_updL f 0 ((S 0 1)).toInt64))))] ++ oC T (w, q, qz, h, qs, t, gr, u, tr, oc) (Sw, sc S 1 (nI kk), Z, sc (sc Sh 1 (nI (hPo o n))) 2 (nI (hPn n)), updS Hs (hPi o n) S, X, Gg, U, K, O)) := by
  refine met_vx (vx_ofWH (cc := cL_key) (maxL := 4) (ret := (some .int)) (by decide) rfl ?_)
  intro p e s m args below meth c s₁ B hml hv
  obtain ⟨ha, ⟨⟨hsz, hP, hK, hD0, hE0⟩, hC⟩, hN9⟩ := hv
  have hx := B.exec
  have hb := B.bytes
  have hr := B.returns
  have hlocks := B.notSynchronized
  have hts := atoms_spec (ws := wsL_key) B.pre
  have htab := vx_table (x := yL_key) B (hts (.codeWith yL_key cL_key 4 (some .int) [(0, 9, 12, 15)]) List.mem_cons_self)
  have hown : s.vm.findClass RL = some m.cls := findClass_of_methodNamed B.named
  have cx : CallFix p m c cL_key 4 s args wsL_key RL := ⟨hx, hb, hml, hown, hts⟩
  subst hsz
  have hD := hD0.self (sz := s.heap.size)
  generalize hAe : va_A ([(ao, .inl (T 3, 1, .inr (.inl f)))] ++ oC T (w, q, qz, h, qs, t, gr, u, tr, oc) (Sw, S, Z, Sh, Hs, X, Gg, U, K, O)) s.heap.size = A at hD hE0 ⊢
  have hE : gE A s s.heap := hE0
  have hA : ∀ q : Nat, s.heap.size ≤ q → A q := fun q h => by rw [← hAe]; exact Or.inr h
  have hS : va_S A s.heap s.heap [] := va_S.rf
  refine w_entry ha (Nat.le_of_ble_eq_true rfl) (fun ls hl => ?_)
  refine w_q (fun Q0 hQ => ?_)
  have hl : lv_has ls 4 [(0, .ref (w 0)), (1, .int (nI kk)), (2, .ref ao)] := hl
  refine w_h (fun H locs hHe hLe => ?_)
  have hP : va_P G vwCl ([(ao, .inl (T 3, 1, .inr (.inl f)))] ++ oC T (w, q, qz, h, qs, t, gr, u, tr, oc) (Sw, S, Z, Sh, Hs, X, Gg, U, K, O)) H := by rw [hHe]; exact hP
  have hS : va_S A s.heap H locs := by rw [hHe, hLe]; exact hS
  refine lv_aload_n hx hb dL_key_0 rfl (lv_at hl 2 rfl) ?_
  refine n_iconst hx hb 0 dL_key_1 (by decide) ?_
  refine lv_aload_n hx hb dL_key_2 rfl (lv_at hl 0 rfl) ?_
  refine lv_iload_n hx hb dL_key_3 rfl (lv_at hl 1 rfl) ?_
  refine k_rwV (As := [.int (nI kk)]) (rest := [.int (nI 0), .ref ao]) (wc := [(ao, .inl (T 3, 1, .inr (.inl f)))] ++ oC T (w, q, qz, h, qs, t, gr, u, tr, oc) (Sw, S, Z, Sh, Hs, X, Gg, U, K, O)) (wr := []) (w1 := [(ao, .inl (T 3, 1, .inr (.inl f)))] ++ oC T (w, q, qz, h, qs, t, gr, u, tr, oc) (Sw, sc S 1 (nI kk), Z, sc (sc Sh 1 (nI (hPo o n))) 2 (nI (hPn n)), updS Hs (hPi o n) S, X, Gg, U, K, O)) (d := 3) (mc := 0) (ms := 0) (v := S 0 1) cx (RWi.fr (w_X7_key l G T H.size w q qz h qs t gr u tr oc Sw S Z Sh Hs X Gg U K O o n kk ho hn ho6 hn6 hk9) (Fr.head [(ao, .inl (T 3, 1, .inr (.inl f)))] (oC T (w, q, qz, h, qs, t, gr, u, tr, oc) (Sw, S, Z, Sh, Hs, X, Gg, U, K, O)) (oC T (w, q, qz, h, qs, t, gr, u, tr, oc) (Sw, sc S 1 (nI kk), Z, sc (sc Sh 1 (nI (hPo o n))) 2 (nI (hPn n)), updS Hs (hPi o n) S, X, Gg, U, K, O)))) (cwV 1 hts gL_key_X7_key rfl rfl rfl (by decide +kernel) ⟨Nat.le_of_ble_eq_true rfl, Nat.le_of_ble_eq_true rfl⟩) (kN_full hP hD hS hA hE hK) (va_recv hK hP (ci := 7) (q0 := 1) rfl rfl) rfl hl.1 rfl (Nat.le_of_ble_eq_true rfl) dL_key_4 ⟨Nat.le_of_ble_eq_true rfl, Nat.le_of_ble_eq_true rfl⟩ (fun H locs hP hD hS hz => ?_)
  have hP : va_P G vwCl ([(ao, .inl (T 3, 1, .inr (.inl f)))] ++ oC T (w, q, qz, h, qs, t, gr, u, tr, oc) (Sw, sc S 1 (nI kk), Z, sc (sc Sh 1 (nI (hPo o n))) 2 (nI (hPn n)), updS Hs (hPi o n) S, X, Gg, U, K, O)) H := hP
  have hD : va_D A ([(ao, .inl (T 3, 1, .inr (.inl f)))] ++ oC T (w, q, qz, h, qs, t, gr, u, tr, oc) (Sw, sc S 1 (nI kk), Z, sc (sc Sh 1 (nI (hPo o n))) 2 (nI (hPn n)), updS Hs (hPi o n) S, X, Gg, U, K, O)) := hD
  refine lv_i2l (v := (S 0 1).toInt64) hx hb dL_key_7 rfl ?_
  refine va_last hx hb hK hP hD hS 0 3 rfl rfl (vp_in_nI (show 0 < 1 by decide) (by decide)) dL_key_8 (fun H locs hP hD hS => ?_)
  have hP : va_P G vwCl ([(ao, .inl (T 3, 1, .inr (.inl (vp_updL f 0 ((S 0 1)).toInt64))))] ++ oC T (w, q, qz, h, qs, t, gr, u, tr, oc) (Sw, sc S 1 (nI kk), Z, sc (sc Sh 1 (nI (hPo o n))) 2 (nI (hPn n)), updS Hs (hPi o n) S, X, Gg, U, K, O)) H := hP
  have hD : va_D A ([(ao, .inl (T 3, 1, .inr (.inl (vp_updL f 0 ((S 0 1)).toInt64))))] ++ oC T (w, q, qz, h, qs, t, gr, u, tr, oc) (Sw, sc S 1 (nI kk), Z, sc (sc Sh 1 (nI (hPo o n))) 2 (nI (hPn n)), updS Hs (hPi o n) S, X, Gg, U, K, O)) := hD
  refine lv_goto (tgt := 15) hx hb dL_key_9 (by decide) ?_
  refine n_iconst hx hb 0 dL_key_15 (by decide) ?_
  subst hQ
  exact vx_ret (W.widen (k := 1) (n := 6) (by decide) (by decide) (e_rwi hx hb hr hlocks hS rfl hP hD dL_key_16))
set_option maxHeartbeats 4000000 in
set_option maxRecDepth 100000 in
theorem c_L_key_t (l : Launch) (hst : l.stackTraces = false) (G : va_G) (T : Nat → ClassId) (sz ao : Nat) (f : Nat → Int64) (w : Nat → Nat) (q : Nat → Nat) (qz : Nat → Nat) (h : Nat → Nat) (qs : Nat → Nat → Nat) (t : Nat → Nat) (gr : Nat → Nat) (u : Nat → Nat) (tr : Nat → Nat) (oc : Nat → Nat) (Sw : Nat → Nat → Int32) (S : Nat → Nat → Int32) (Z : Nat → Nat → Int32) (Sh : Nat → Nat → Int32) (Hs : Nat → Nat → Nat → Int32) (X : Nat → Nat → Int32) (Gg : Nat → Nat → Int32) (U : Nat → Nat → Int32) (K : Nat → Nat → Int32) (O : Nat → Nat → Int32) (x : Int32) (hbx : pBt x 7 = false) : RWx l yL_key wsL_key 8 G T sz ([(ao, .inl (T 3, 1, .inr (.inl f)))] ++ oC T (w, q, qz, h, qs, t, gr, u, tr, oc) (Sw, S, Z, Sh, Hs, X, Gg, U, K, O)) [.ref (w 0), .int x, .ref ao] (nI 1) ([(ao, .inl (T 3, 1, .inr (.inl f)))] ++ oC T (w, q, qz, h, qs, t, gr, u, tr, oc) (Sw, S, Z, Sh, Hs, X, Gg, U, K, O)) := by
  refine met_vx (vx_ofWH (cc := cL_key) (maxL := 4) (ret := (some .int)) (by decide) rfl ?_)
  intro p e s m args below meth c s₁ B hml hv
  obtain ⟨ha, ⟨⟨hsz, hP, hK, hD0, hE0⟩, hC⟩, hN9⟩ := hv
  have hx := B.exec
  have hb := B.bytes
  have hr := B.returns
  have hlocks := B.notSynchronized
  have hts := atoms_spec (ws := wsL_key) B.pre
  have htab := vx_table (x := yL_key) B (hts (.codeWith yL_key cL_key 4 (some .int) [(0, 9, 12, 15)]) List.mem_cons_self)
  have hown : s.vm.findClass RL = some m.cls := findClass_of_methodNamed B.named
  have cx : CallFix p m c cL_key 4 s args wsL_key RL := ⟨hx, hb, hml, hown, hts⟩
  subst hsz
  have hD := hD0.self (sz := s.heap.size)
  generalize hAe : va_A ([(ao, .inl (T 3, 1, .inr (.inl f)))] ++ oC T (w, q, qz, h, qs, t, gr, u, tr, oc) (Sw, S, Z, Sh, Hs, X, Gg, U, K, O)) s.heap.size = A at hD hE0 ⊢
  have hE : gE A s s.heap := hE0
  have hA : ∀ q : Nat, s.heap.size ≤ q → A q := fun q h => by rw [← hAe]; exact Or.inr h
  have hS : va_S A s.heap s.heap [] := va_S.rf
  refine w_entry ha (Nat.le_of_ble_eq_true rfl) (fun ls hl => ?_)
  refine w_q (fun Q0 hQ => ?_)
  have hl : lv_has ls 4 [(0, .ref (w 0)), (1, .int x), (2, .ref ao)] := hl
  refine w_h (fun H locs hHe hLe => ?_)
  have hP : va_P G vwCl ([(ao, .inl (T 3, 1, .inr (.inl f)))] ++ oC T (w, q, qz, h, qs, t, gr, u, tr, oc) (Sw, S, Z, Sh, Hs, X, Gg, U, K, O)) H := by rw [hHe]; exact hP
  have hS : va_S A s.heap H locs := by rw [hHe, hLe]; exact hS
  refine lv_aload_n hx hb dL_key_0 rfl (lv_at hl 2 rfl) ?_
  refine n_iconst hx hb 0 dL_key_1 (by decide) ?_
  refine lv_aload_n hx hb dL_key_2 rfl (lv_at hl 0 rfl) ?_
  refine lv_iload_n hx hb dL_key_3 rfl (lv_at hl 1 rfl) ?_
  refine k_rxV (As := [.int x]) (rest := [.int (nI 0), .ref ao]) (wc := [(ao, .inl (T 3, 1, .inr (.inl f)))] ++ oC T (w, q, qz, h, qs, t, gr, u, tr, oc) (Sw, S, Z, Sh, Hs, X, Gg, U, K, O)) (wr := []) (w1 := [(ao, .inl (T 3, 1, .inr (.inl f)))] ++ oC T (w, q, qz, h, qs, t, gr, u, tr, oc) (Sw, S, Z, Sh, Hs, X, Gg, U, K, O)) (d := 7) cx (RX.fr (w_X7_key_t l hst G T H.size w q qz h qs t gr u tr oc Sw S Z Sh Hs X Gg U K O x hbx) (Fr.head [(ao, .inl (T 3, 1, .inr (.inl f)))] (oC T (w, q, qz, h, qs, t, gr, u, tr, oc) (Sw, S, Z, Sh, Hs, X, Gg, U, K, O)) (oC T (w, q, qz, h, qs, t, gr, u, tr, oc) (Sw, S, Z, Sh, Hs, X, Gg, U, K, O)))) (cwV 1 hts gL_key_X7_key rfl rfl rfl (by decide +kernel) ⟨Nat.le_of_ble_eq_true rfl, Nat.le_of_ble_eq_true rfl⟩) (kN_full hP hD hS hA hE hK) hC (va_recv hK hP (ci := 7) (q0 := 1) rfl rfl) rfl hl.1 rfl (Nat.le_of_ble_eq_true rfl) dL_key_4 ⟨Nat.le_of_ble_eq_true rfl, Nat.le_of_ble_eq_true rfl⟩ (fun E9 ce q9 H locs he hP hD hS h1 h2 h3 => ?_) (fun v H locs he => by cases he)
  cases he
  refine vx_catch (own := RL) (name := "java/lang/IllegalArgumentException") (E := "java/lang/IllegalArgumentException") hown [] ⟨0, 9, 12, 15⟩ [] (htab.trans rfl) (fun _ h9 => by cases h9) (by decide) (by decide) (hts (.classLink RL 15 "java/lang/IllegalArgumentException") (by decide +kernel)) (va_Nw.use rfl (hC.1 "java/lang/IllegalArgumentException" (by decide))) h1 h2 h3 ?_
  refine lv_astore_n (lv' := [(3, .ref q9), (0, .ref (w 0)), (1, .int x), (2, .ref ao)]) hx hb dL_key_12 rfl hl (by decide) rfl (fun ls hl => ?_)
  refine n_iconst hx hb 1 dL_key_13 (by decide) ?_
  subst hQ
  exact vx_ret (W.widen (k := 1) (n := 6) (by decide) (by decide) (e_rwi hx hb hr hlocks hS rfl hP hD dL_key_14))
set_option maxHeartbeats 4000000 in
set_option maxRecDepth 100000 in
theorem c_L_tell (l : Launch) (hst : l.stackTraces = false) (G : va_G) (T : Nat → ClassId) (sz ao : Nat) (f : Nat → Int64) (w : Nat → Nat) (q : Nat → Nat) (qz : Nat → Nat) (h : Nat → Nat) (qs : Nat → Nat → Nat) (t : Nat → Nat) (gr : Nat → Nat) (u : Nat → Nat) (tr : Nat → Nat) (oc : Nat → Nat) (Sw : Nat → Nat → Int32) (S : Nat → Nat → Int32) (Z : Nat → Nat → Int32) (Sh : Nat → Nat → Int32) (Hs : Nat → Nat → Nat → Int32) (X : Nat → Nat → Int32) (Gg : Nat → Nat → Int32) (U : Nat → Nat → Int32) (K : Nat → Nat → Int32) (O : Nat → Nat → Int32) (o : Nat) (n : Nat) (rr : Nat) (ho : Sh 0 1 = nI o) (hn : Sh 0 2 = nI n) (ho6 : o < 6) (hn6 : n ≤ 6) (hr6 : rr < 6) : RWx l yL_tell wsL_tell 4 G T sz ([(ao, .inl (T 3, 1, .inr (.inl f)))] ++ oC T (w, q, qz, h, qs, t, gr, u, tr, oc) (Sw, S, Z, Sh, Hs, X, Gg, U, K, O)) [.ref (w 0), .int (nI rr), .ref ao] (nI 0) ([(ao, .inl (T 3, 1, .inr (.inl (vp_updL f 0 ((S 11 rr)).toInt64))))] ++ oC T (w, q, qz, h, qs, t, gr, u, tr, oc) (Sw, sa S 11 (upd (S 11) rr (S 0 1)), Z, sc (sc Sh 1 (nI (hPo o n))) 2 (nI (hPn n)), updS Hs (hPi o n) S, X, Gg, U, K, O)) := by
  refine met_vx (vx_ofWH (cc := cL_tell) (maxL := 4) (ret := (some .int)) (by decide) rfl ?_)
  intro p e s m args below meth c s₁ B hml hv
  obtain ⟨ha, ⟨⟨hsz, hP, hK, hD0, hE0⟩, hC⟩, hN9⟩ := hv
  have hx := B.exec
  have hb := B.bytes
  have hr := B.returns
  have hlocks := B.notSynchronized
  have hts := atoms_spec (ws := wsL_tell) B.pre
  have htab := vx_table (x := yL_tell) B (hts (.codeWith yL_tell cL_tell 4 (some .int) [(0, 9, 12, 13)]) List.mem_cons_self)
  have hown : s.vm.findClass RL = some m.cls := findClass_of_methodNamed B.named
  have cx : CallFix p m c cL_tell 4 s args wsL_tell RL := ⟨hx, hb, hml, hown, hts⟩
  subst hsz
  have hD := hD0.self (sz := s.heap.size)
  generalize hAe : va_A ([(ao, .inl (T 3, 1, .inr (.inl f)))] ++ oC T (w, q, qz, h, qs, t, gr, u, tr, oc) (Sw, S, Z, Sh, Hs, X, Gg, U, K, O)) s.heap.size = A at hD hE0 ⊢
  have hE : gE A s s.heap := hE0
  have hA : ∀ q : Nat, s.heap.size ≤ q → A q := fun q h => by rw [← hAe]; exact Or.inr h
  have hS : va_S A s.heap s.heap [] := va_S.rf
  refine w_entry ha (Nat.le_of_ble_eq_true rfl) (fun ls hl => ?_)
  refine w_q (fun Q0 hQ => ?_)
  have hl : lv_has ls 4 [(0, .ref (w 0)), (1, .int (nI rr)), (2, .ref ao)] := hl
  refine w_h (fun H locs hHe hLe => ?_)
  have hP : va_P G vwCl ([(ao, .inl (T 3, 1, .inr (.inl f)))] ++ oC T (w, q, qz, h, qs, t, gr, u, tr, oc) (Sw, S, Z, Sh, Hs, X, Gg, U, K, O)) H := by rw [hHe]; exact hP
  have hS : va_S A s.heap H locs := by rw [hHe, hLe]; exact hS
  refine lv_aload_n hx hb dL_tell_0 rfl (lv_at hl 2 rfl) ?_
  refine n_iconst hx hb 0 dL_tell_1 (by decide) ?_
  refine lv_aload_n hx hb dL_tell_2 rfl (lv_at hl 0 rfl) ?_
  refine lv_iload_n hx hb dL_tell_3 rfl (lv_at hl 1 rfl) ?_
  refine k_rwV (As := [.int (nI rr)]) (rest := [.int (nI 0), .ref ao]) (wc := [(ao, .inl (T 3, 1, .inr (.inl f)))] ++ oC T (w, q, qz, h, qs, t, gr, u, tr, oc) (Sw, S, Z, Sh, Hs, X, Gg, U, K, O)) (wr := []) (w1 := [(ao, .inl (T 3, 1, .inr (.inl f)))] ++ oC T (w, q, qz, h, qs, t, gr, u, tr, oc) (Sw, sa S 11 (upd (S 11) rr (S 0 1)), Z, sc (sc Sh 1 (nI (hPo o n))) 2 (nI (hPn n)), updS Hs (hPi o n) S, X, Gg, U, K, O)) (d := 3) (mc := 0) (ms := 0) (v := S 11 rr) cx (RWi.fr (w_X7_tell l G T H.size w q qz h qs t gr u tr oc Sw S Z Sh Hs X Gg U K O o n rr ho hn ho6 hn6 hr6) (Fr.head [(ao, .inl (T 3, 1, .inr (.inl f)))] (oC T (w, q, qz, h, qs, t, gr, u, tr, oc) (Sw, S, Z, Sh, Hs, X, Gg, U, K, O)) (oC T (w, q, qz, h, qs, t, gr, u, tr, oc) (Sw, sa S 11 (upd (S 11) rr (S 0 1)), Z, sc (sc Sh 1 (nI (hPo o n))) 2 (nI (hPn n)), updS Hs (hPi o n) S, X, Gg, U, K, O)))) (cwV 1 hts gL_tell_X7_tell rfl rfl rfl (by decide +kernel) ⟨Nat.le_of_ble_eq_true rfl, Nat.le_of_ble_eq_true rfl⟩) (kN_full hP hD hS hA hE hK) (va_recv hK hP (ci := 7) (q0 := 1) rfl rfl) rfl hl.1 rfl (Nat.le_of_ble_eq_true rfl) dL_tell_4 ⟨Nat.le_of_ble_eq_true rfl, Nat.le_of_ble_eq_true rfl⟩ (fun H locs hP hD hS hz => ?_)
  have hP : va_P G vwCl ([(ao, .inl (T 3, 1, .inr (.inl f)))] ++ oC T (w, q, qz, h, qs, t, gr, u, tr, oc) (Sw, sa S 11 (upd (S 11) rr (S 0 1)), Z, sc (sc Sh 1 (nI (hPo o n))) 2 (nI (hPn n)), updS Hs (hPi o n) S, X, Gg, U, K, O)) H := hP
  have hD : va_D A ([(ao, .inl (T 3, 1, .inr (.inl f)))] ++ oC T (w, q, qz, h, qs, t, gr, u, tr, oc) (Sw, sa S 11 (upd (S 11) rr (S 0 1)), Z, sc (sc Sh 1 (nI (hPo o n))) 2 (nI (hPn n)), updS Hs (hPi o n) S, X, Gg, U, K, O)) := hD
  refine lv_i2l (v := (S 11 rr).toInt64) hx hb dL_tell_7 rfl ?_
  refine va_last hx hb hK hP hD hS 0 3 rfl rfl (vp_in_nI (show 0 < 1 by decide) (by decide)) dL_tell_8 (fun H locs hP hD hS => ?_)
  have hP : va_P G vwCl ([(ao, .inl (T 3, 1, .inr (.inl (vp_updL f 0 ((S 11 rr)).toInt64))))] ++ oC T (w, q, qz, h, qs, t, gr, u, tr, oc) (Sw, sa S 11 (upd (S 11) rr (S 0 1)), Z, sc (sc Sh 1 (nI (hPo o n))) 2 (nI (hPn n)), updS Hs (hPi o n) S, X, Gg, U, K, O)) H := hP
  have hD : va_D A ([(ao, .inl (T 3, 1, .inr (.inl (vp_updL f 0 ((S 11 rr)).toInt64))))] ++ oC T (w, q, qz, h, qs, t, gr, u, tr, oc) (Sw, sa S 11 (upd (S 11) rr (S 0 1)), Z, sc (sc Sh 1 (nI (hPo o n))) 2 (nI (hPn n)), updS Hs (hPi o n) S, X, Gg, U, K, O)) := hD
  refine lv_goto (tgt := 15) hx hb dL_tell_9 (by decide) ?_
  refine n_iconst hx hb 0 dL_tell_15 (by decide) ?_
  subst hQ
  exact vx_ret (W.widen (k := 1) (n := 6) (by decide) (by decide) (e_rwi hx hb hr hlocks hS rfl hP hD dL_tell_16))
set_option maxHeartbeats 4000000 in
set_option maxRecDepth 100000 in
theorem c_L_tell_t (l : Launch) (hst : l.stackTraces = false) (G : va_G) (T : Nat → ClassId) (sz ao : Nat) (f : Nat → Int64) (w : Nat → Nat) (q : Nat → Nat) (qz : Nat → Nat) (h : Nat → Nat) (qs : Nat → Nat → Nat) (t : Nat → Nat) (gr : Nat → Nat) (u : Nat → Nat) (tr : Nat → Nat) (oc : Nat → Nat) (Sw : Nat → Nat → Int32) (S : Nat → Nat → Int32) (Z : Nat → Nat → Int32) (Sh : Nat → Nat → Int32) (Hs : Nat → Nat → Nat → Int32) (X : Nat → Nat → Int32) (Gg : Nat → Nat → Int32) (U : Nat → Nat → Int32) (K : Nat → Nat → Int32) (O : Nat → Nat → Int32) (x : Int32) (hbx : pBt x 6 = false) : RWx l yL_tell wsL_tell 8 G T sz ([(ao, .inl (T 3, 1, .inr (.inl f)))] ++ oC T (w, q, qz, h, qs, t, gr, u, tr, oc) (Sw, S, Z, Sh, Hs, X, Gg, U, K, O)) [.ref (w 0), .int x, .ref ao] (nI 1) ([(ao, .inl (T 3, 1, .inr (.inl f)))] ++ oC T (w, q, qz, h, qs, t, gr, u, tr, oc) (Sw, S, Z, Sh, Hs, X, Gg, U, K, O)) := by
  refine met_vx (vx_ofWH (cc := cL_tell) (maxL := 4) (ret := (some .int)) (by decide) rfl ?_)
  intro p e s m args below meth c s₁ B hml hv
  obtain ⟨ha, ⟨⟨hsz, hP, hK, hD0, hE0⟩, hC⟩, hN9⟩ := hv
  have hx := B.exec
  have hb := B.bytes
  have hr := B.returns
  have hlocks := B.notSynchronized
  have hts := atoms_spec (ws := wsL_tell) B.pre
  have htab := vx_table (x := yL_tell) B (hts (.codeWith yL_tell cL_tell 4 (some .int) [(0, 9, 12, 13)]) List.mem_cons_self)
  have hown : s.vm.findClass RL = some m.cls := findClass_of_methodNamed B.named
  have cx : CallFix p m c cL_tell 4 s args wsL_tell RL := ⟨hx, hb, hml, hown, hts⟩
  subst hsz
  have hD := hD0.self (sz := s.heap.size)
  generalize hAe : va_A ([(ao, .inl (T 3, 1, .inr (.inl f)))] ++ oC T (w, q, qz, h, qs, t, gr, u, tr, oc) (Sw, S, Z, Sh, Hs, X, Gg, U, K, O)) s.heap.size = A at hD hE0 ⊢
  have hE : gE A s s.heap := hE0
  have hA : ∀ q : Nat, s.heap.size ≤ q → A q := fun q h => by rw [← hAe]; exact Or.inr h
  have hS : va_S A s.heap s.heap [] := va_S.rf
  refine w_entry ha (Nat.le_of_ble_eq_true rfl) (fun ls hl => ?_)
  refine w_q (fun Q0 hQ => ?_)
  have hl : lv_has ls 4 [(0, .ref (w 0)), (1, .int x), (2, .ref ao)] := hl
  refine w_h (fun H locs hHe hLe => ?_)
  have hP : va_P G vwCl ([(ao, .inl (T 3, 1, .inr (.inl f)))] ++ oC T (w, q, qz, h, qs, t, gr, u, tr, oc) (Sw, S, Z, Sh, Hs, X, Gg, U, K, O)) H := by rw [hHe]; exact hP
  have hS : va_S A s.heap H locs := by rw [hHe, hLe]; exact hS
  refine lv_aload_n hx hb dL_tell_0 rfl (lv_at hl 2 rfl) ?_
  refine n_iconst hx hb 0 dL_tell_1 (by decide) ?_
  refine lv_aload_n hx hb dL_tell_2 rfl (lv_at hl 0 rfl) ?_
  refine lv_iload_n hx hb dL_tell_3 rfl (lv_at hl 1 rfl) ?_
  refine k_rxV (As := [.int x]) (rest := [.int (nI 0), .ref ao]) (wc := [(ao, .inl (T 3, 1, .inr (.inl f)))] ++ oC T (w, q, qz, h, qs, t, gr, u, tr, oc) (Sw, S, Z, Sh, Hs, X, Gg, U, K, O)) (wr := []) (w1 := [(ao, .inl (T 3, 1, .inr (.inl f)))] ++ oC T (w, q, qz, h, qs, t, gr, u, tr, oc) (Sw, S, Z, Sh, Hs, X, Gg, U, K, O)) (d := 7) cx (RX.fr (w_X7_tell_t l hst G T H.size w q qz h qs t gr u tr oc Sw S Z Sh Hs X Gg U K O x hbx) (Fr.head [(ao, .inl (T 3, 1, .inr (.inl f)))] (oC T (w, q, qz, h, qs, t, gr, u, tr, oc) (Sw, S, Z, Sh, Hs, X, Gg, U, K, O)) (oC T (w, q, qz, h, qs, t, gr, u, tr, oc) (Sw, S, Z, Sh, Hs, X, Gg, U, K, O)))) (cwV 1 hts gL_tell_X7_tell rfl rfl rfl (by decide +kernel) ⟨Nat.le_of_ble_eq_true rfl, Nat.le_of_ble_eq_true rfl⟩) (kN_full hP hD hS hA hE hK) hC (va_recv hK hP (ci := 7) (q0 := 1) rfl rfl) rfl hl.1 rfl (Nat.le_of_ble_eq_true rfl) dL_tell_4 ⟨Nat.le_of_ble_eq_true rfl, Nat.le_of_ble_eq_true rfl⟩ (fun E9 ce q9 H locs he hP hD hS h1 h2 h3 => ?_) (fun v H locs he => by cases he)
  cases he
  refine vx_catch (own := RL) (name := "java/lang/IndexOutOfBoundsException") (E := "java/lang/IndexOutOfBoundsException") hown [] ⟨0, 9, 12, 13⟩ [] (htab.trans rfl) (fun _ h9 => by cases h9) (by decide) (by decide) (hts (.classLink RL 13 "java/lang/IndexOutOfBoundsException") (by decide +kernel)) (va_Nw.use rfl (hC.1 "java/lang/IndexOutOfBoundsException" (by decide))) h1 h2 h3 ?_
  refine lv_astore_n (lv' := [(3, .ref q9), (0, .ref (w 0)), (1, .int x), (2, .ref ao)]) hx hb dL_tell_12 rfl hl (by decide) rfl (fun ls hl => ?_)
  refine n_iconst hx hb 1 dL_tell_13 (by decide) ?_
  subst hQ
  exact vx_ret (W.widen (k := 1) (n := 6) (by decide) (by decide) (e_rwi hx hb hr hlocks hS rfl hP hD dL_tell_14))
set_option maxHeartbeats 4000000 in
set_option maxRecDepth 100000 in
theorem c_L_lookout (l : Launch) (hst : l.stackTraces = false) (G : va_G) (T : Nat → ClassId) (sz ao : Nat) (f : Nat → Int64) (w : Nat → Nat) (q : Nat → Nat) (qz : Nat → Nat) (h : Nat → Nat) (qs : Nat → Nat → Nat) (t : Nat → Nat) (gr : Nat → Nat) (u : Nat → Nat) (tr : Nat → Nat) (oc : Nat → Nat) (Sw : Nat → Nat → Int32) (S : Nat → Nat → Int32) (Z : Nat → Nat → Int32) (Sh : Nat → Nat → Int32) (Hs : Nat → Nat → Nat → Int32) (X : Nat → Nat → Int32) (Gg : Nat → Nat → Int32) (U : Nat → Nat → Int32) (K : Nat → Nat → Int32) (O : Nat → Nat → Int32) (o : Nat) (n : Nat) (ff : Nat) (bb : Bool) (ho : Sh 0 1 = nI o) (hn : Sh 0 2 = nI n) (ho6 : o < 6) (hn6 : n ≤ 6) (hf3 : ff < 3) : RWx l yL_lookout wsL_lookout 4 G T sz ([(ao, .inl (T 3, 1, .inr (.inl f)))] ++ oC T (w, q, qz, h, qs, t, gr, u, tr, oc) (Sw, S, Z, Sh, Hs, X, Gg, U, K, O)) [.ref (w 0), .int (nI ff), .int (bI bb), .ref ao] (nI 0) ([(ao, .inl (T 3, 1, .inr (.inl (vp_updL f 0 ((pBC (pLk S ff bb))).toInt64))))] ++ oC T (w, q, qz, h, qs, t, gr, u, tr, oc) (Sw, sc S 2 (pLk S ff bb), Z, sc (sc Sh 1 (nI (hPo o n))) 2 (nI (hPn n)), updS Hs (hPi o n) S, X, Gg, U, K, O)) := by
  refine met_vx (vx_ofWH (cc := cL_lookout) (maxL := 5) (ret := (some .int)) (by decide) rfl ?_)
  intro p e s m args below meth c s₁ B hml hv
  obtain ⟨ha, ⟨⟨hsz, hP, hK, hD0, hE0⟩, hC⟩, hN9⟩ := hv
  have hx := B.exec
  have hb := B.bytes
  have hr := B.returns
  have hlocks := B.notSynchronized
  have hts := atoms_spec (ws := wsL_lookout) B.pre
  have htab := vx_table (x := yL_lookout) B (hts (.codeWith yL_lookout cL_lookout 5 (some .int) [(0, 10, 13, 13)]) List.mem_cons_self)
  have hown : s.vm.findClass RL = some m.cls := findClass_of_methodNamed B.named
  have cx : CallFix p m c cL_lookout 5 s args wsL_lookout RL := ⟨hx, hb, hml, hown, hts⟩
  subst hsz
  have hD := hD0.self (sz := s.heap.size)
  generalize hAe : va_A ([(ao, .inl (T 3, 1, .inr (.inl f)))] ++ oC T (w, q, qz, h, qs, t, gr, u, tr, oc) (Sw, S, Z, Sh, Hs, X, Gg, U, K, O)) s.heap.size = A at hD hE0 ⊢
  have hE : gE A s s.heap := hE0
  have hA : ∀ q : Nat, s.heap.size ≤ q → A q := fun q h => by rw [← hAe]; exact Or.inr h
  have hS : va_S A s.heap s.heap [] := va_S.rf
  refine w_entry ha (Nat.le_of_ble_eq_true rfl) (fun ls hl => ?_)
  refine w_q (fun Q0 hQ => ?_)
  have hl : lv_has ls 5 [(0, .ref (w 0)), (1, .int (nI ff)), (2, .int (bI bb)), (3, .ref ao)] := hl
  refine w_h (fun H locs hHe hLe => ?_)
  have hP : va_P G vwCl ([(ao, .inl (T 3, 1, .inr (.inl f)))] ++ oC T (w, q, qz, h, qs, t, gr, u, tr, oc) (Sw, S, Z, Sh, Hs, X, Gg, U, K, O)) H := by rw [hHe]; exact hP
  have hS : va_S A s.heap H locs := by rw [hHe, hLe]; exact hS
  refine lv_aload_n hx hb dL_lookout_0 rfl (lv_at hl 3 rfl) ?_
  refine n_iconst hx hb 0 dL_lookout_1 (by decide) ?_
  refine lv_aload_n hx hb dL_lookout_2 rfl (lv_at hl 0 rfl) ?_
  refine lv_iload_n hx hb dL_lookout_3 rfl (lv_at hl 1 rfl) ?_
  refine lv_iload_n hx hb dL_lookout_4 rfl (lv_at hl 2 rfl) ?_
  refine k_rwV (As := [.int (nI ff), .int (bI bb)]) (rest := [.int (nI 0), .ref ao]) (wc := [(ao, .inl (T 3, 1, .inr (.inl f)))] ++ oC T (w, q, qz, h, qs, t, gr, u, tr, oc) (Sw, S, Z, Sh, Hs, X, Gg, U, K, O)) (wr := []) (w1 := [(ao, .inl (T 3, 1, .inr (.inl f)))] ++ oC T (w, q, qz, h, qs, t, gr, u, tr, oc) (Sw, sc S 2 (pLk S ff bb), Z, sc (sc Sh 1 (nI (hPo o n))) 2 (nI (hPn n)), updS Hs (hPi o n) S, X, Gg, U, K, O)) (d := 3) (mc := 0) (ms := 0) (v := pBC (pLk S ff bb)) cx (RWi.fr (w_X7_lookout l G T H.size w q qz h qs t gr u tr oc Sw S Z Sh Hs X Gg U K O o n ff bb ho hn ho6 hn6 hf3) (Fr.head [(ao, .inl (T 3, 1, .inr (.inl f)))] (oC T (w, q, qz, h, qs, t, gr, u, tr, oc) (Sw, S, Z, Sh, Hs, X, Gg, U, K, O)) (oC T (w, q, qz, h, qs, t, gr, u, tr, oc) (Sw, sc S 2 (pLk S ff bb), Z, sc (sc Sh 1 (nI (hPo o n))) 2 (nI (hPn n)), updS Hs (hPi o n) S, X, Gg, U, K, O)))) (cwV 2 hts gL_lookout_X7_lookout rfl rfl rfl (by decide +kernel) ⟨Nat.le_of_ble_eq_true rfl, Nat.le_of_ble_eq_true rfl⟩) (kN_full hP hD hS hA hE hK) (va_recv hK hP (ci := 7) (q0 := 1) rfl rfl) rfl hl.1 rfl (Nat.le_of_ble_eq_true rfl) dL_lookout_5 ⟨Nat.le_of_ble_eq_true rfl, Nat.le_of_ble_eq_true rfl⟩ (fun H locs hP hD hS hz => ?_)
  have hP : va_P G vwCl ([(ao, .inl (T 3, 1, .inr (.inl f)))] ++ oC T (w, q, qz, h, qs, t, gr, u, tr, oc) (Sw, sc S 2 (pLk S ff bb), Z, sc (sc Sh 1 (nI (hPo o n))) 2 (nI (hPn n)), updS Hs (hPi o n) S, X, Gg, U, K, O)) H := hP
  have hD : va_D A ([(ao, .inl (T 3, 1, .inr (.inl f)))] ++ oC T (w, q, qz, h, qs, t, gr, u, tr, oc) (Sw, sc S 2 (pLk S ff bb), Z, sc (sc Sh 1 (nI (hPo o n))) 2 (nI (hPn n)), updS Hs (hPi o n) S, X, Gg, U, K, O)) := hD
  refine lv_i2l (v := (pBC (pLk S ff bb)).toInt64) hx hb dL_lookout_8 rfl ?_
  refine va_last hx hb hK hP hD hS 0 3 rfl rfl (vp_in_nI (show 0 < 1 by decide) (by decide)) dL_lookout_9 (fun H locs hP hD hS => ?_)
  have hP : va_P G vwCl ([(ao, .inl (T 3, 1, .inr (.inl (vp_updL f 0 ((pBC (pLk S ff bb))).toInt64))))] ++ oC T (w, q, qz, h, qs, t, gr, u, tr, oc) (Sw, sc S 2 (pLk S ff bb), Z, sc (sc Sh 1 (nI (hPo o n))) 2 (nI (hPn n)), updS Hs (hPi o n) S, X, Gg, U, K, O)) H := hP
  have hD : va_D A ([(ao, .inl (T 3, 1, .inr (.inl (vp_updL f 0 ((pBC (pLk S ff bb))).toInt64))))] ++ oC T (w, q, qz, h, qs, t, gr, u, tr, oc) (Sw, sc S 2 (pLk S ff bb), Z, sc (sc Sh 1 (nI (hPo o n))) 2 (nI (hPn n)), updS Hs (hPi o n) S, X, Gg, U, K, O)) := hD
  refine lv_goto (tgt := 17) hx hb dL_lookout_10 (by decide) ?_
  refine n_iconst hx hb 0 dL_lookout_17 (by decide) ?_
  subst hQ
  exact vx_ret (W.widen (k := 1) (n := 6) (by decide) (by decide) (e_rwi hx hb hr hlocks hS rfl hP hD dL_lookout_18))
set_option maxHeartbeats 4000000 in
set_option maxRecDepth 100000 in
theorem c_L_lookout_t (l : Launch) (hst : l.stackTraces = false) (G : va_G) (T : Nat → ClassId) (sz ao : Nat) (f : Nat → Int64) (w : Nat → Nat) (q : Nat → Nat) (qz : Nat → Nat) (h : Nat → Nat) (qs : Nat → Nat → Nat) (t : Nat → Nat) (gr : Nat → Nat) (u : Nat → Nat) (tr : Nat → Nat) (oc : Nat → Nat) (Sw : Nat → Nat → Int32) (S : Nat → Nat → Int32) (Z : Nat → Nat → Int32) (Sh : Nat → Nat → Int32) (Hs : Nat → Nat → Nat → Int32) (X : Nat → Nat → Int32) (Gg : Nat → Nat → Int32) (U : Nat → Nat → Int32) (K : Nat → Nat → Int32) (O : Nat → Nat → Int32) (x : Int32) (bb : Bool) (hbx : pBt x 3 = false) : RWx l yL_lookout wsL_lookout 8 G T sz ([(ao, .inl (T 3, 1, .inr (.inl f)))] ++ oC T (w, q, qz, h, qs, t, gr, u, tr, oc) (Sw, S, Z, Sh, Hs, X, Gg, U, K, O)) [.ref (w 0), .int x, .int (bI bb), .ref ao] (nI 1) ([(ao, .inl (T 3, 1, .inr (.inl f)))] ++ oC T (w, q, qz, h, qs, t, gr, u, tr, oc) (Sw, S, Z, Sh, Hs, X, Gg, U, K, O)) := by
  refine met_vx (vx_ofWH (cc := cL_lookout) (maxL := 5) (ret := (some .int)) (by decide) rfl ?_)
  intro p e s m args below meth c s₁ B hml hv
  obtain ⟨ha, ⟨⟨hsz, hP, hK, hD0, hE0⟩, hC⟩, hN9⟩ := hv
  have hx := B.exec
  have hb := B.bytes
  have hr := B.returns
  have hlocks := B.notSynchronized
  have hts := atoms_spec (ws := wsL_lookout) B.pre
  have htab := vx_table (x := yL_lookout) B (hts (.codeWith yL_lookout cL_lookout 5 (some .int) [(0, 10, 13, 13)]) List.mem_cons_self)
  have hown : s.vm.findClass RL = some m.cls := findClass_of_methodNamed B.named
  have cx : CallFix p m c cL_lookout 5 s args wsL_lookout RL := ⟨hx, hb, hml, hown, hts⟩
  subst hsz
  have hD := hD0.self (sz := s.heap.size)
  generalize hAe : va_A ([(ao, .inl (T 3, 1, .inr (.inl f)))] ++ oC T (w, q, qz, h, qs, t, gr, u, tr, oc) (Sw, S, Z, Sh, Hs, X, Gg, U, K, O)) s.heap.size = A at hD hE0 ⊢
  have hE : gE A s s.heap := hE0
  have hA : ∀ q : Nat, s.heap.size ≤ q → A q := fun q h => by rw [← hAe]; exact Or.inr h
  have hS : va_S A s.heap s.heap [] := va_S.rf
  refine w_entry ha (Nat.le_of_ble_eq_true rfl) (fun ls hl => ?_)
  refine w_q (fun Q0 hQ => ?_)
  have hl : lv_has ls 5 [(0, .ref (w 0)), (1, .int x), (2, .int (bI bb)), (3, .ref ao)] := hl
  refine w_h (fun H locs hHe hLe => ?_)
  have hP : va_P G vwCl ([(ao, .inl (T 3, 1, .inr (.inl f)))] ++ oC T (w, q, qz, h, qs, t, gr, u, tr, oc) (Sw, S, Z, Sh, Hs, X, Gg, U, K, O)) H := by rw [hHe]; exact hP
  have hS : va_S A s.heap H locs := by rw [hHe, hLe]; exact hS
  refine lv_aload_n hx hb dL_lookout_0 rfl (lv_at hl 3 rfl) ?_
  refine n_iconst hx hb 0 dL_lookout_1 (by decide) ?_
  refine lv_aload_n hx hb dL_lookout_2 rfl (lv_at hl 0 rfl) ?_
  refine lv_iload_n hx hb dL_lookout_3 rfl (lv_at hl 1 rfl) ?_
  refine lv_iload_n hx hb dL_lookout_4 rfl (lv_at hl 2 rfl) ?_
  refine k_rxV (As := [.int x, .int (bI bb)]) (rest := [.int (nI 0), .ref ao]) (wc := [(ao, .inl (T 3, 1, .inr (.inl f)))] ++ oC T (w, q, qz, h, qs, t, gr, u, tr, oc) (Sw, S, Z, Sh, Hs, X, Gg, U, K, O)) (wr := []) (w1 := [(ao, .inl (T 3, 1, .inr (.inl f)))] ++ oC T (w, q, qz, h, qs, t, gr, u, tr, oc) (Sw, S, Z, Sh, Hs, X, Gg, U, K, O)) (d := 7) cx (RX.fr (w_X7_lookout_t l hst G T H.size w q qz h qs t gr u tr oc Sw S Z Sh Hs X Gg U K O x bb hbx) (Fr.head [(ao, .inl (T 3, 1, .inr (.inl f)))] (oC T (w, q, qz, h, qs, t, gr, u, tr, oc) (Sw, S, Z, Sh, Hs, X, Gg, U, K, O)) (oC T (w, q, qz, h, qs, t, gr, u, tr, oc) (Sw, S, Z, Sh, Hs, X, Gg, U, K, O)))) (cwV 2 hts gL_lookout_X7_lookout rfl rfl rfl (by decide +kernel) ⟨Nat.le_of_ble_eq_true rfl, Nat.le_of_ble_eq_true rfl⟩) (kN_full hP hD hS hA hE hK) hC (va_recv hK hP (ci := 7) (q0 := 1) rfl rfl) rfl hl.1 rfl (Nat.le_of_ble_eq_true rfl) dL_lookout_5 ⟨Nat.le_of_ble_eq_true rfl, Nat.le_of_ble_eq_true rfl⟩ (fun E9 ce q9 H locs he hP hD hS h1 h2 h3 => ?_) (fun v H locs he => by cases he)
  cases he
  refine vx_catch (own := RL) (name := "java/lang/IndexOutOfBoundsException") (E := "java/lang/IndexOutOfBoundsException") hown [] ⟨0, 10, 13, 13⟩ [] (htab.trans rfl) (fun _ h9 => by cases h9) (by decide) (by decide) (hts (.classLink RL 13 "java/lang/IndexOutOfBoundsException") (by decide +kernel)) (va_Nw.use rfl (hC.1 "java/lang/IndexOutOfBoundsException" (by decide))) h1 h2 h3 ?_
  refine lv_astore (lv' := [(4, .ref q9), (0, .ref (w 0)), (1, .int x), (2, .int (bI bb)), (3, .ref ao)]) hx hb dL_lookout_13 hl (by decide) rfl (fun ls hl => ?_)
  refine n_iconst hx hb 1 dL_lookout_15 (by decide) ?_
  subst hQ
  exact vx_ret (W.widen (k := 1) (n := 6) (by decide) (by decide) (e_rwi hx hb hr hlocks hS rfl hP hD dL_lookout_16))
set_option maxHeartbeats 4000000 in
set_option maxRecDepth 100000 in
theorem c_L_ban (l : Launch) (hst : l.stackTraces = false) (G : va_G) (T : Nat → ClassId) (sz ao : Nat) (f : Nat → Int64) (w : Nat → Nat) (q : Nat → Nat) (qz : Nat → Nat) (h : Nat → Nat) (qs : Nat → Nat → Nat) (t : Nat → Nat) (gr : Nat → Nat) (u : Nat → Nat) (tr : Nat → Nat) (oc : Nat → Nat) (Sw : Nat → Nat → Int32) (S : Nat → Nat → Int32) (Z : Nat → Nat → Int32) (Sh : Nat → Nat → Int32) (Hs : Nat → Nat → Nat → Int32) (X : Nat → Nat → Int32) (Gg : Nat → Nat → Int32) (U : Nat → Nat → Int32) (K : Nat → Nat → Int32) (O : Nat → Nat → Int32) (o : Nat) (n : Nat) (ff : Nat) (mm : Nat) (ho : Sh 0 1 = nI o) (hn : Sh 0 2 = nI n) (ho6 : o < 6) (hn6 : n ≤ 6) (hf3 : ff < 3) (hm20 : mm < 20) : RWx l yL_ban wsL_ban 4 G T sz ([(ao, .inl (T 3, 1, .inr (.inl f)))] ++ oC T (w, q, qz, h, qs, t, gr, u, tr, oc) (Sw, S, Z, Sh, Hs, X, Gg, U, K, O)) [.ref (w 0), .int (nI ff), .int (nI mm), .ref ao] (nI 0) ([(ao, .inl (T 3, 1, .inr (.inl (vp_updL f 0 ((bI (pHB (S 8 mm ^^^ iShl (nI 1) (nI ff)) (nI ff)))).toInt64))))] ++ oC T (w, q, qz, h, qs, t, gr, u, tr, oc) (Sw, sa S 8 (upd (S 8) mm (S 8 mm ^^^ iShl (nI 1) (nI ff))), Z, sc (sc Sh 1 (nI (hPo o n))) 2 (nI (hPn n)), updS Hs (hPi o n) S, X, Gg, U, K, O)) := by
  refine met_vx (vx_ofWH (cc := cL_ban) (maxL := 5) (ret := (some .int)) (by decide) rfl ?_)
  intro p e s m args below meth c s₁ B hml hv
  obtain ⟨ha, ⟨⟨hsz, hP, hK, hD0, hE0⟩, hC⟩, hN9⟩ := hv
  have hx := B.exec
  have hb := B.bytes
  have hr := B.returns
  have hlocks := B.notSynchronized
  have hts := atoms_spec (ws := wsL_ban) B.pre
  have htab := vx_table (x := yL_ban) B (hts (.codeWith yL_ban cL_ban 5 (some .int) [(0, 10, 13, 13)]) List.mem_cons_self)
  have hown : s.vm.findClass RL = some m.cls := findClass_of_methodNamed B.named
  have cx : CallFix p m c cL_ban 5 s args wsL_ban RL := ⟨hx, hb, hml, hown, hts⟩
  subst hsz
  have hD := hD0.self (sz := s.heap.size)
  generalize hAe : va_A ([(ao, .inl (T 3, 1, .inr (.inl f)))] ++ oC T (w, q, qz, h, qs, t, gr, u, tr, oc) (Sw, S, Z, Sh, Hs, X, Gg, U, K, O)) s.heap.size = A at hD hE0 ⊢
  have hE : gE A s s.heap := hE0
  have hA : ∀ q : Nat, s.heap.size ≤ q → A q := fun q h => by rw [← hAe]; exact Or.inr h
  have hS : va_S A s.heap s.heap [] := va_S.rf
  refine w_entry ha (Nat.le_of_ble_eq_true rfl) (fun ls hl => ?_)
  refine w_q (fun Q0 hQ => ?_)
  have hl : lv_has ls 5 [(0, .ref (w 0)), (1, .int (nI ff)), (2, .int (nI mm)), (3, .ref ao)] := hl
  refine w_h (fun H locs hHe hLe => ?_)
  have hP : va_P G vwCl ([(ao, .inl (T 3, 1, .inr (.inl f)))] ++ oC T (w, q, qz, h, qs, t, gr, u, tr, oc) (Sw, S, Z, Sh, Hs, X, Gg, U, K, O)) H := by rw [hHe]; exact hP
  have hS : va_S A s.heap H locs := by rw [hHe, hLe]; exact hS
  refine lv_aload_n hx hb dL_ban_0 rfl (lv_at hl 3 rfl) ?_
  refine n_iconst hx hb 0 dL_ban_1 (by decide) ?_
  refine lv_aload_n hx hb dL_ban_2 rfl (lv_at hl 0 rfl) ?_
  refine lv_iload_n hx hb dL_ban_3 rfl (lv_at hl 1 rfl) ?_
  refine lv_iload_n hx hb dL_ban_4 rfl (lv_at hl 2 rfl) ?_
  refine k_rwV (As := [.int (nI ff), .int (nI mm)]) (rest := [.int (nI 0), .ref ao]) (wc := [(ao, .inl (T 3, 1, .inr (.inl f)))] ++ oC T (w, q, qz, h, qs, t, gr, u, tr, oc) (Sw, S, Z, Sh, Hs, X, Gg, U, K, O)) (wr := []) (w1 := [(ao, .inl (T 3, 1, .inr (.inl f)))] ++ oC T (w, q, qz, h, qs, t, gr, u, tr, oc) (Sw, sa S 8 (upd (S 8) mm (S 8 mm ^^^ iShl (nI 1) (nI ff))), Z, sc (sc Sh 1 (nI (hPo o n))) 2 (nI (hPn n)), updS Hs (hPi o n) S, X, Gg, U, K, O)) (d := 3) (mc := 0) (ms := 0) (v := bI (pHB (S 8 mm ^^^ iShl (nI 1) (nI ff)) (nI ff))) cx (RWi.fr (w_X7_ban l G T H.size w q qz h qs t gr u tr oc Sw S Z Sh Hs X Gg U K O o n ff mm ho hn ho6 hn6 hf3 hm20) (Fr.head [(ao, .inl (T 3, 1, .inr (.inl f)))] (oC T (w, q, qz, h, qs, t, gr, u, tr, oc) (Sw, S, Z, Sh, Hs, X, Gg, U, K, O)) (oC T (w, q, qz, h, qs, t, gr, u, tr, oc) (Sw, sa S 8 (upd (S 8) mm (S 8 mm ^^^ iShl (nI 1) (nI ff))), Z, sc (sc Sh 1 (nI (hPo o n))) 2 (nI (hPn n)), updS Hs (hPi o n) S, X, Gg, U, K, O)))) (cwV 2 hts gL_ban_X7_ban rfl rfl rfl (by decide +kernel) ⟨Nat.le_of_ble_eq_true rfl, Nat.le_of_ble_eq_true rfl⟩) (kN_full hP hD hS hA hE hK) (va_recv hK hP (ci := 7) (q0 := 1) rfl rfl) rfl hl.1 rfl (Nat.le_of_ble_eq_true rfl) dL_ban_5 ⟨Nat.le_of_ble_eq_true rfl, Nat.le_of_ble_eq_true rfl⟩ (fun H locs hP hD hS hz => ?_)
  have hP : va_P G vwCl ([(ao, .inl (T 3, 1, .inr (.inl f)))] ++ oC T (w, q, qz, h, qs, t, gr, u, tr, oc) (Sw, sa S 8 (upd (S 8) mm (S 8 mm ^^^ iShl (nI 1) (nI ff))), Z, sc (sc Sh 1 (nI (hPo o n))) 2 (nI (hPn n)), updS Hs (hPi o n) S, X, Gg, U, K, O)) H := hP
  have hD : va_D A ([(ao, .inl (T 3, 1, .inr (.inl f)))] ++ oC T (w, q, qz, h, qs, t, gr, u, tr, oc) (Sw, sa S 8 (upd (S 8) mm (S 8 mm ^^^ iShl (nI 1) (nI ff))), Z, sc (sc Sh 1 (nI (hPo o n))) 2 (nI (hPn n)), updS Hs (hPi o n) S, X, Gg, U, K, O)) := hD
  refine lv_i2l (v := (bI (pHB (S 8 mm ^^^ iShl (nI 1) (nI ff)) (nI ff))).toInt64) hx hb dL_ban_8 rfl ?_
  refine va_last hx hb hK hP hD hS 0 3 rfl rfl (vp_in_nI (show 0 < 1 by decide) (by decide)) dL_ban_9 (fun H locs hP hD hS => ?_)
  have hP : va_P G vwCl ([(ao, .inl (T 3, 1, .inr (.inl (vp_updL f 0 ((bI (pHB (S 8 mm ^^^ iShl (nI 1) (nI ff)) (nI ff)))).toInt64))))] ++ oC T (w, q, qz, h, qs, t, gr, u, tr, oc) (Sw, sa S 8 (upd (S 8) mm (S 8 mm ^^^ iShl (nI 1) (nI ff))), Z, sc (sc Sh 1 (nI (hPo o n))) 2 (nI (hPn n)), updS Hs (hPi o n) S, X, Gg, U, K, O)) H := hP
  have hD : va_D A ([(ao, .inl (T 3, 1, .inr (.inl (vp_updL f 0 ((bI (pHB (S 8 mm ^^^ iShl (nI 1) (nI ff)) (nI ff)))).toInt64))))] ++ oC T (w, q, qz, h, qs, t, gr, u, tr, oc) (Sw, sa S 8 (upd (S 8) mm (S 8 mm ^^^ iShl (nI 1) (nI ff))), Z, sc (sc Sh 1 (nI (hPo o n))) 2 (nI (hPn n)), updS Hs (hPi o n) S, X, Gg, U, K, O)) := hD
  refine lv_goto (tgt := 17) hx hb dL_ban_10 (by decide) ?_
  refine n_iconst hx hb 0 dL_ban_17 (by decide) ?_
  subst hQ
  exact vx_ret (W.widen (k := 1) (n := 6) (by decide) (by decide) (e_rwi hx hb hr hlocks hS rfl hP hD dL_ban_18))
set_option maxHeartbeats 4000000 in
set_option maxRecDepth 100000 in
theorem c_L_ban_t (l : Launch) (hst : l.stackTraces = false) (G : va_G) (T : Nat → ClassId) (sz ao : Nat) (f : Nat → Int64) (w : Nat → Nat) (q : Nat → Nat) (qz : Nat → Nat) (h : Nat → Nat) (qs : Nat → Nat → Nat) (t : Nat → Nat) (gr : Nat → Nat) (u : Nat → Nat) (tr : Nat → Nat) (oc : Nat → Nat) (Sw : Nat → Nat → Int32) (S : Nat → Nat → Int32) (Z : Nat → Nat → Int32) (Sh : Nat → Nat → Int32) (Hs : Nat → Nat → Nat → Int32) (X : Nat → Nat → Int32) (Gg : Nat → Nat → Int32) (U : Nat → Nat → Int32) (K : Nat → Nat → Int32) (O : Nat → Nat → Int32) (x : Int32) (y : Int32) (hbx : pBt x 3 = false) : RWx l yL_ban wsL_ban 8 G T sz ([(ao, .inl (T 3, 1, .inr (.inl f)))] ++ oC T (w, q, qz, h, qs, t, gr, u, tr, oc) (Sw, S, Z, Sh, Hs, X, Gg, U, K, O)) [.ref (w 0), .int x, .int y, .ref ao] (nI 1) ([(ao, .inl (T 3, 1, .inr (.inl f)))] ++ oC T (w, q, qz, h, qs, t, gr, u, tr, oc) (Sw, S, Z, Sh, Hs, X, Gg, U, K, O)) := by
  refine met_vx (vx_ofWH (cc := cL_ban) (maxL := 5) (ret := (some .int)) (by decide) rfl ?_)
  intro p e s m args below meth c s₁ B hml hv
  obtain ⟨ha, ⟨⟨hsz, hP, hK, hD0, hE0⟩, hC⟩, hN9⟩ := hv
  have hx := B.exec
  have hb := B.bytes
  have hr := B.returns
  have hlocks := B.notSynchronized
  have hts := atoms_spec (ws := wsL_ban) B.pre
  have htab := vx_table (x := yL_ban) B (hts (.codeWith yL_ban cL_ban 5 (some .int) [(0, 10, 13, 13)]) List.mem_cons_self)
  have hown : s.vm.findClass RL = some m.cls := findClass_of_methodNamed B.named
  have cx : CallFix p m c cL_ban 5 s args wsL_ban RL := ⟨hx, hb, hml, hown, hts⟩
  subst hsz
  have hD := hD0.self (sz := s.heap.size)
  generalize hAe : va_A ([(ao, .inl (T 3, 1, .inr (.inl f)))] ++ oC T (w, q, qz, h, qs, t, gr, u, tr, oc) (Sw, S, Z, Sh, Hs, X, Gg, U, K, O)) s.heap.size = A at hD hE0 ⊢
  have hE : gE A s s.heap := hE0
  have hA : ∀ q : Nat, s.heap.size ≤ q → A q := fun q h => by rw [← hAe]; exact Or.inr h
  have hS : va_S A s.heap s.heap [] := va_S.rf
  refine w_entry ha (Nat.le_of_ble_eq_true rfl) (fun ls hl => ?_)
  refine w_q (fun Q0 hQ => ?_)
  have hl : lv_has ls 5 [(0, .ref (w 0)), (1, .int x), (2, .int y), (3, .ref ao)] := hl
  refine w_h (fun H locs hHe hLe => ?_)
  have hP : va_P G vwCl ([(ao, .inl (T 3, 1, .inr (.inl f)))] ++ oC T (w, q, qz, h, qs, t, gr, u, tr, oc) (Sw, S, Z, Sh, Hs, X, Gg, U, K, O)) H := by rw [hHe]; exact hP
  have hS : va_S A s.heap H locs := by rw [hHe, hLe]; exact hS
  refine lv_aload_n hx hb dL_ban_0 rfl (lv_at hl 3 rfl) ?_
  refine n_iconst hx hb 0 dL_ban_1 (by decide) ?_
  refine lv_aload_n hx hb dL_ban_2 rfl (lv_at hl 0 rfl) ?_
  refine lv_iload_n hx hb dL_ban_3 rfl (lv_at hl 1 rfl) ?_
  refine lv_iload_n hx hb dL_ban_4 rfl (lv_at hl 2 rfl) ?_
  refine k_rxV (As := [.int x, .int y]) (rest := [.int (nI 0), .ref ao]) (wc := [(ao, .inl (T 3, 1, .inr (.inl f)))] ++ oC T (w, q, qz, h, qs, t, gr, u, tr, oc) (Sw, S, Z, Sh, Hs, X, Gg, U, K, O)) (wr := []) (w1 := [(ao, .inl (T 3, 1, .inr (.inl f)))] ++ oC T (w, q, qz, h, qs, t, gr, u, tr, oc) (Sw, S, Z, Sh, Hs, X, Gg, U, K, O)) (d := 7) cx (RX.fr (w_X7_ban_t l hst G T H.size w q qz h qs t gr u tr oc Sw S Z Sh Hs X Gg U K O x y hbx) (Fr.head [(ao, .inl (T 3, 1, .inr (.inl f)))] (oC T (w, q, qz, h, qs, t, gr, u, tr, oc) (Sw, S, Z, Sh, Hs, X, Gg, U, K, O)) (oC T (w, q, qz, h, qs, t, gr, u, tr, oc) (Sw, S, Z, Sh, Hs, X, Gg, U, K, O)))) (cwV 2 hts gL_ban_X7_ban rfl rfl rfl (by decide +kernel) ⟨Nat.le_of_ble_eq_true rfl, Nat.le_of_ble_eq_true rfl⟩) (kN_full hP hD hS hA hE hK) hC (va_recv hK hP (ci := 7) (q0 := 1) rfl rfl) rfl hl.1 rfl (Nat.le_of_ble_eq_true rfl) dL_ban_5 ⟨Nat.le_of_ble_eq_true rfl, Nat.le_of_ble_eq_true rfl⟩ (fun E9 ce q9 H locs he hP hD hS h1 h2 h3 => ?_) (fun v H locs he => by cases he)
  cases he
  refine vx_catch (own := RL) (name := "java/lang/IndexOutOfBoundsException") (E := "java/lang/IndexOutOfBoundsException") hown [] ⟨0, 10, 13, 13⟩ [] (htab.trans rfl) (fun _ h9 => by cases h9) (by decide) (by decide) (hts (.classLink RL 13 "java/lang/IndexOutOfBoundsException") (by decide +kernel)) (va_Nw.use rfl (hC.1 "java/lang/IndexOutOfBoundsException" (by decide))) h1 h2 h3 ?_
  refine lv_astore (lv' := [(4, .ref q9), (0, .ref (w 0)), (1, .int x), (2, .int y), (3, .ref ao)]) hx hb dL_ban_13 hl (by decide) rfl (fun ls hl => ?_)
  refine n_iconst hx hb 1 dL_ban_15 (by decide) ?_
  subst hQ
  exact vx_ret (W.widen (k := 1) (n := 6) (by decide) (by decide) (e_rwi hx hb hr hlocks hS rfl hP hD dL_ban_16))
set_option maxHeartbeats 4000000 in
set_option maxRecDepth 100000 in
theorem c_L_ban_t2 (l : Launch) (hst : l.stackTraces = false) (G : va_G) (T : Nat → ClassId) (sz ao : Nat) (f : Nat → Int64) (w : Nat → Nat) (q : Nat → Nat) (qz : Nat → Nat) (h : Nat → Nat) (qs : Nat → Nat → Nat) (t : Nat → Nat) (gr : Nat → Nat) (u : Nat → Nat) (tr : Nat → Nat) (oc : Nat → Nat) (Sw : Nat → Nat → Int32) (S : Nat → Nat → Int32) (Z : Nat → Nat → Int32) (Sh : Nat → Nat → Int32) (Hs : Nat → Nat → Nat → Int32) (X : Nat → Nat → Int32) (Gg : Nat → Nat → Int32) (U : Nat → Nat → Int32) (K : Nat → Nat → Int32) (O : Nat → Nat → Int32) (ff : Nat) (y : Int32) (hf3 : ff < 3) (hby : pBt y 20 = false) : RWx l yL_ban wsL_ban 8 G T sz ([(ao, .inl (T 3, 1, .inr (.inl f)))] ++ oC T (w, q, qz, h, qs, t, gr, u, tr, oc) (Sw, S, Z, Sh, Hs, X, Gg, U, K, O)) [.ref (w 0), .int (nI ff), .int y, .ref ao] (nI 1) ([(ao, .inl (T 3, 1, .inr (.inl f)))] ++ oC T (w, q, qz, h, qs, t, gr, u, tr, oc) (Sw, S, Z, Sh, Hs, X, Gg, U, K, O)) := by
  refine met_vx (vx_ofWH (cc := cL_ban) (maxL := 5) (ret := (some .int)) (by decide) rfl ?_)
  intro p e s m args below meth c s₁ B hml hv
  obtain ⟨ha, ⟨⟨hsz, hP, hK, hD0, hE0⟩, hC⟩, hN9⟩ := hv
  have hx := B.exec
  have hb := B.bytes
  have hr := B.returns
  have hlocks := B.notSynchronized
  have hts := atoms_spec (ws := wsL_ban) B.pre
  have htab := vx_table (x := yL_ban) B (hts (.codeWith yL_ban cL_ban 5 (some .int) [(0, 10, 13, 13)]) List.mem_cons_self)
  have hown : s.vm.findClass RL = some m.cls := findClass_of_methodNamed B.named
  have cx : CallFix p m c cL_ban 5 s args wsL_ban RL := ⟨hx, hb, hml, hown, hts⟩
  subst hsz
  have hD := hD0.self (sz := s.heap.size)
  generalize hAe : va_A ([(ao, .inl (T 3, 1, .inr (.inl f)))] ++ oC T (w, q, qz, h, qs, t, gr, u, tr, oc) (Sw, S, Z, Sh, Hs, X, Gg, U, K, O)) s.heap.size = A at hD hE0 ⊢
  have hE : gE A s s.heap := hE0
  have hA : ∀ q : Nat, s.heap.size ≤ q → A q := fun q h => by rw [← hAe]; exact Or.inr h
  have hS : va_S A s.heap s.heap [] := va_S.rf
  refine w_entry ha (Nat.le_of_ble_eq_true rfl) (fun ls hl => ?_)
  refine w_q (fun Q0 hQ => ?_)
  have hl : lv_has ls 5 [(0, .ref (w 0)), (1, .int (nI ff)), (2, .int y), (3, .ref ao)] := hl
  refine w_h (fun H locs hHe hLe => ?_)
  have hP : va_P G vwCl ([(ao, .inl (T 3, 1, .inr (.inl f)))] ++ oC T (w, q, qz, h, qs, t, gr, u, tr, oc) (Sw, S, Z, Sh, Hs, X, Gg, U, K, O)) H := by rw [hHe]; exact hP
  have hS : va_S A s.heap H locs := by rw [hHe, hLe]; exact hS
  refine lv_aload_n hx hb dL_ban_0 rfl (lv_at hl 3 rfl) ?_
  refine n_iconst hx hb 0 dL_ban_1 (by decide) ?_
  refine lv_aload_n hx hb dL_ban_2 rfl (lv_at hl 0 rfl) ?_
  refine lv_iload_n hx hb dL_ban_3 rfl (lv_at hl 1 rfl) ?_
  refine lv_iload_n hx hb dL_ban_4 rfl (lv_at hl 2 rfl) ?_
  refine k_rxV (As := [.int (nI ff), .int y]) (rest := [.int (nI 0), .ref ao]) (wc := [(ao, .inl (T 3, 1, .inr (.inl f)))] ++ oC T (w, q, qz, h, qs, t, gr, u, tr, oc) (Sw, S, Z, Sh, Hs, X, Gg, U, K, O)) (wr := []) (w1 := [(ao, .inl (T 3, 1, .inr (.inl f)))] ++ oC T (w, q, qz, h, qs, t, gr, u, tr, oc) (Sw, S, Z, Sh, Hs, X, Gg, U, K, O)) (d := 7) cx (RX.fr (w_X7_ban_t2 l hst G T H.size w q qz h qs t gr u tr oc Sw S Z Sh Hs X Gg U K O ff y hf3 hby) (Fr.head [(ao, .inl (T 3, 1, .inr (.inl f)))] (oC T (w, q, qz, h, qs, t, gr, u, tr, oc) (Sw, S, Z, Sh, Hs, X, Gg, U, K, O)) (oC T (w, q, qz, h, qs, t, gr, u, tr, oc) (Sw, S, Z, Sh, Hs, X, Gg, U, K, O)))) (cwV 2 hts gL_ban_X7_ban rfl rfl rfl (by decide +kernel) ⟨Nat.le_of_ble_eq_true rfl, Nat.le_of_ble_eq_true rfl⟩) (kN_full hP hD hS hA hE hK) hC (va_recv hK hP (ci := 7) (q0 := 1) rfl rfl) rfl hl.1 rfl (Nat.le_of_ble_eq_true rfl) dL_ban_5 ⟨Nat.le_of_ble_eq_true rfl, Nat.le_of_ble_eq_true rfl⟩ (fun E9 ce q9 H locs he hP hD hS h1 h2 h3 => ?_) (fun v H locs he => by cases he)
  cases he
  refine vx_catch (own := RL) (name := "java/lang/IndexOutOfBoundsException") (E := "java/lang/IndexOutOfBoundsException") hown [] ⟨0, 10, 13, 13⟩ [] (htab.trans rfl) (fun _ h9 => by cases h9) (by decide) (by decide) (hts (.classLink RL 13 "java/lang/IndexOutOfBoundsException") (by decide +kernel)) (va_Nw.use rfl (hC.1 "java/lang/IndexOutOfBoundsException" (by decide))) h1 h2 h3 ?_
  refine lv_astore (lv' := [(4, .ref q9), (0, .ref (w 0)), (1, .int (nI ff)), (2, .int y), (3, .ref ao)]) hx hb dL_ban_13 hl (by decide) rfl (fun ls hl => ?_)
  refine n_iconst hx hb 1 dL_ban_15 (by decide) ?_
  subst hQ
  exact vx_ret (W.widen (k := 1) (n := 6) (by decide) (by decide) (e_rwi hx hb hr hlocks hS rfl hP hD dL_ban_16))
set_option maxHeartbeats 4000000 in
set_option maxRecDepth 100000 in
theorem c_L_set (l : Launch) (hst : l.stackTraces = false) (G : va_G) (T : Nat → ClassId) (sz ao : Nat) (f : Nat → Int64) (w : Nat → Nat) (q : Nat → Nat) (qz : Nat → Nat) (h : Nat → Nat) (qs : Nat → Nat → Nat) (t : Nat → Nat) (gr : Nat → Nat) (u : Nat → Nat) (tr : Nat → Nat) (oc : Nat → Nat) (Sw : Nat → Nat → Int32) (S : Nat → Nat → Int32) (Z : Nat → Nat → Int32) (Sh : Nat → Nat → Int32) (Hs : Nat → Nat → Nat → Int32) (X : Nat → Nat → Int32) (Gg : Nat → Nat → Int32) (U : Nat → Nat → Int32) (K : Nat → Nat → Int32) (O : Nat → Nat → Int32) (o : Nat) (n : Nat) (ii : Nat) (y : Int32) (ho : Sh 0 1 = nI o) (hn : Sh 0 2 = nI n) (ho6 : o < 6) (hn6 : n ≤ 6) (hi2 : ii < 2) (hv9 : pVO (nI ii) y = true) : RWx l yL_set wsL_set 4 G T sz ([(ao, .inl (T 3, 1, .inr (.inl f)))] ++ oC T (w, q, qz, h, qs, t, gr, u, tr, oc) (Sw, S, Z, Sh, Hs, X, Gg, U, K, O)) [.ref (w 0), .int (nI ii), .int y, .ref ao] (nI 0) ([(ao, .inl (T 3, 1, .inr (.inl (vp_updL f 0 ((S 5 ii)).toInt64))))] ++ oC T (w, q, qz, h, qs, t, gr, u, tr, oc) (Sw, sa S 5 (upd (S 5) ii y), Z, sc (sc Sh 1 (nI (hPo o n))) 2 (nI (hPn n)), updS Hs (hPi o n) S, X, Gg, U, K, O)) := by
  refine met_vx (vx_ofWH (cc := cL_set) (maxL := 5) (ret := (some .int)) (by decide) rfl ?_)
  intro p e s m args below meth c s₁ B hml hv
  obtain ⟨ha, ⟨⟨hsz, hP, hK, hD0, hE0⟩, hC⟩, hN9⟩ := hv
  have hx := B.exec
  have hb := B.bytes
  have hr := B.returns
  have hlocks := B.notSynchronized
  have hts := atoms_spec (ws := wsL_set) B.pre
  have htab := vx_table (x := yL_set) B (hts (.codeWith yL_set cL_set 5 (some .int) [(0, 10, 13, 13), (0, 10, 17, 15)]) List.mem_cons_self)
  have hown : s.vm.findClass RL = some m.cls := findClass_of_methodNamed B.named
  have cx : CallFix p m c cL_set 5 s args wsL_set RL := ⟨hx, hb, hml, hown, hts⟩
  subst hsz
  have hD := hD0.self (sz := s.heap.size)
  generalize hAe : va_A ([(ao, .inl (T 3, 1, .inr (.inl f)))] ++ oC T (w, q, qz, h, qs, t, gr, u, tr, oc) (Sw, S, Z, Sh, Hs, X, Gg, U, K, O)) s.heap.size = A at hD hE0 ⊢
  have hE : gE A s s.heap := hE0
  have hA : ∀ q : Nat, s.heap.size ≤ q → A q := fun q h => by rw [← hAe]; exact Or.inr h
  have hS : va_S A s.heap s.heap [] := va_S.rf
  refine w_entry ha (Nat.le_of_ble_eq_true rfl) (fun ls hl => ?_)
  refine w_q (fun Q0 hQ => ?_)
  have hl : lv_has ls 5 [(0, .ref (w 0)), (1, .int (nI ii)), (2, .int y), (3, .ref ao)] := hl
  refine w_h (fun H locs hHe hLe => ?_)
  have hP : va_P G vwCl ([(ao, .inl (T 3, 1, .inr (.inl f)))] ++ oC T (w, q, qz, h, qs, t, gr, u, tr, oc) (Sw, S, Z, Sh, Hs, X, Gg, U, K, O)) H := by rw [hHe]; exact hP
  have hS : va_S A s.heap H locs := by rw [hHe, hLe]; exact hS
  refine lv_aload_n hx hb dL_set_0 rfl (lv_at hl 3 rfl) ?_
  refine n_iconst hx hb 0 dL_set_1 (by decide) ?_
  refine lv_aload_n hx hb dL_set_2 rfl (lv_at hl 0 rfl) ?_
  refine lv_iload_n hx hb dL_set_3 rfl (lv_at hl 1 rfl) ?_
  refine lv_iload_n hx hb dL_set_4 rfl (lv_at hl 2 rfl) ?_
  refine k_rwV (As := [.int (nI ii), .int y]) (rest := [.int (nI 0), .ref ao]) (wc := [(ao, .inl (T 3, 1, .inr (.inl f)))] ++ oC T (w, q, qz, h, qs, t, gr, u, tr, oc) (Sw, S, Z, Sh, Hs, X, Gg, U, K, O)) (wr := []) (w1 := [(ao, .inl (T 3, 1, .inr (.inl f)))] ++ oC T (w, q, qz, h, qs, t, gr, u, tr, oc) (Sw, sa S 5 (upd (S 5) ii y), Z, sc (sc Sh 1 (nI (hPo o n))) 2 (nI (hPn n)), updS Hs (hPi o n) S, X, Gg, U, K, O)) (d := 3) (mc := 0) (ms := 0) (v := S 5 ii) cx (RWi.fr (w_X7_set l G T H.size w q qz h qs t gr u tr oc Sw S Z Sh Hs X Gg U K O o n ii y ho hn ho6 hn6 hi2 hv9) (Fr.head [(ao, .inl (T 3, 1, .inr (.inl f)))] (oC T (w, q, qz, h, qs, t, gr, u, tr, oc) (Sw, S, Z, Sh, Hs, X, Gg, U, K, O)) (oC T (w, q, qz, h, qs, t, gr, u, tr, oc) (Sw, sa S 5 (upd (S 5) ii y), Z, sc (sc Sh 1 (nI (hPo o n))) 2 (nI (hPn n)), updS Hs (hPi o n) S, X, Gg, U, K, O)))) (cwV 2 hts gL_set_X7_set rfl rfl rfl (by decide +kernel) ⟨Nat.le_of_ble_eq_true rfl, Nat.le_of_ble_eq_true rfl⟩) (kN_full hP hD hS hA hE hK) (va_recv hK hP (ci := 7) (q0 := 1) rfl rfl) rfl hl.1 rfl (Nat.le_of_ble_eq_true rfl) dL_set_5 ⟨Nat.le_of_ble_eq_true rfl, Nat.le_of_ble_eq_true rfl⟩ (fun H locs hP hD hS hz => ?_)
  have hP : va_P G vwCl ([(ao, .inl (T 3, 1, .inr (.inl f)))] ++ oC T (w, q, qz, h, qs, t, gr, u, tr, oc) (Sw, sa S 5 (upd (S 5) ii y), Z, sc (sc Sh 1 (nI (hPo o n))) 2 (nI (hPn n)), updS Hs (hPi o n) S, X, Gg, U, K, O)) H := hP
  have hD : va_D A ([(ao, .inl (T 3, 1, .inr (.inl f)))] ++ oC T (w, q, qz, h, qs, t, gr, u, tr, oc) (Sw, sa S 5 (upd (S 5) ii y), Z, sc (sc Sh 1 (nI (hPo o n))) 2 (nI (hPn n)), updS Hs (hPi o n) S, X, Gg, U, K, O)) := hD
  refine lv_i2l (v := (S 5 ii).toInt64) hx hb dL_set_8 rfl ?_
  refine va_last hx hb hK hP hD hS 0 3 rfl rfl (vp_in_nI (show 0 < 1 by decide) (by decide)) dL_set_9 (fun H locs hP hD hS => ?_)
  have hP : va_P G vwCl ([(ao, .inl (T 3, 1, .inr (.inl (vp_updL f 0 ((S 5 ii)).toInt64))))] ++ oC T (w, q, qz, h, qs, t, gr, u, tr, oc) (Sw, sa S 5 (upd (S 5) ii y), Z, sc (sc Sh 1 (nI (hPo o n))) 2 (nI (hPn n)), updS Hs (hPi o n) S, X, Gg, U, K, O)) H := hP
  have hD : va_D A ([(ao, .inl (T 3, 1, .inr (.inl (vp_updL f 0 ((S 5 ii)).toInt64))))] ++ oC T (w, q, qz, h, qs, t, gr, u, tr, oc) (Sw, sa S 5 (upd (S 5) ii y), Z, sc (sc Sh 1 (nI (hPo o n))) 2 (nI (hPn n)), updS Hs (hPi o n) S, X, Gg, U, K, O)) := hD
  refine lv_goto (tgt := 21) hx hb dL_set_10 (by decide) ?_
  refine n_iconst hx hb 0 dL_set_21 (by decide) ?_
  subst hQ
  exact vx_ret (W.widen (k := 1) (n := 6) (by decide) (by decide) (e_rwi hx hb hr hlocks hS rfl hP hD dL_set_22))
set_option maxHeartbeats 4000000 in
set_option maxRecDepth 100000 in
theorem c_L_set_t (l : Launch) (hst : l.stackTraces = false) (G : va_G) (T : Nat → ClassId) (sz ao : Nat) (f : Nat → Int64) (w : Nat → Nat) (q : Nat → Nat) (qz : Nat → Nat) (h : Nat → Nat) (qs : Nat → Nat → Nat) (t : Nat → Nat) (gr : Nat → Nat) (u : Nat → Nat) (tr : Nat → Nat) (oc : Nat → Nat) (Sw : Nat → Nat → Int32) (S : Nat → Nat → Int32) (Z : Nat → Nat → Int32) (Sh : Nat → Nat → Int32) (Hs : Nat → Nat → Nat → Int32) (X : Nat → Nat → Int32) (Gg : Nat → Nat → Int32) (U : Nat → Nat → Int32) (K : Nat → Nat → Int32) (O : Nat → Nat → Int32) (x : Int32) (y : Int32) (hbx : pBt x 2 = false) : RWx l yL_set wsL_set 8 G T sz ([(ao, .inl (T 3, 1, .inr (.inl f)))] ++ oC T (w, q, qz, h, qs, t, gr, u, tr, oc) (Sw, S, Z, Sh, Hs, X, Gg, U, K, O)) [.ref (w 0), .int x, .int y, .ref ao] (nI 1) ([(ao, .inl (T 3, 1, .inr (.inl f)))] ++ oC T (w, q, qz, h, qs, t, gr, u, tr, oc) (Sw, S, Z, Sh, Hs, X, Gg, U, K, O)) := by
  refine met_vx (vx_ofWH (cc := cL_set) (maxL := 5) (ret := (some .int)) (by decide) rfl ?_)
  intro p e s m args below meth c s₁ B hml hv
  obtain ⟨ha, ⟨⟨hsz, hP, hK, hD0, hE0⟩, hC⟩, hN9⟩ := hv
  have hx := B.exec
  have hb := B.bytes
  have hr := B.returns
  have hlocks := B.notSynchronized
  have hts := atoms_spec (ws := wsL_set) B.pre
  have htab := vx_table (x := yL_set) B (hts (.codeWith yL_set cL_set 5 (some .int) [(0, 10, 13, 13), (0, 10, 17, 15)]) List.mem_cons_self)
  have hown : s.vm.findClass RL = some m.cls := findClass_of_methodNamed B.named
  have cx : CallFix p m c cL_set 5 s args wsL_set RL := ⟨hx, hb, hml, hown, hts⟩
  subst hsz
  have hD := hD0.self (sz := s.heap.size)
  generalize hAe : va_A ([(ao, .inl (T 3, 1, .inr (.inl f)))] ++ oC T (w, q, qz, h, qs, t, gr, u, tr, oc) (Sw, S, Z, Sh, Hs, X, Gg, U, K, O)) s.heap.size = A at hD hE0 ⊢
  have hE : gE A s s.heap := hE0
  have hA : ∀ q : Nat, s.heap.size ≤ q → A q := fun q h => by rw [← hAe]; exact Or.inr h
  have hS : va_S A s.heap s.heap [] := va_S.rf
  refine w_entry ha (Nat.le_of_ble_eq_true rfl) (fun ls hl => ?_)
  refine w_q (fun Q0 hQ => ?_)
  have hl : lv_has ls 5 [(0, .ref (w 0)), (1, .int x), (2, .int y), (3, .ref ao)] := hl
  refine w_h (fun H locs hHe hLe => ?_)
  have hP : va_P G vwCl ([(ao, .inl (T 3, 1, .inr (.inl f)))] ++ oC T (w, q, qz, h, qs, t, gr, u, tr, oc) (Sw, S, Z, Sh, Hs, X, Gg, U, K, O)) H := by rw [hHe]; exact hP
  have hS : va_S A s.heap H locs := by rw [hHe, hLe]; exact hS
  refine lv_aload_n hx hb dL_set_0 rfl (lv_at hl 3 rfl) ?_
  refine n_iconst hx hb 0 dL_set_1 (by decide) ?_
  refine lv_aload_n hx hb dL_set_2 rfl (lv_at hl 0 rfl) ?_
  refine lv_iload_n hx hb dL_set_3 rfl (lv_at hl 1 rfl) ?_
  refine lv_iload_n hx hb dL_set_4 rfl (lv_at hl 2 rfl) ?_
  refine k_rxV (As := [.int x, .int y]) (rest := [.int (nI 0), .ref ao]) (wc := [(ao, .inl (T 3, 1, .inr (.inl f)))] ++ oC T (w, q, qz, h, qs, t, gr, u, tr, oc) (Sw, S, Z, Sh, Hs, X, Gg, U, K, O)) (wr := []) (w1 := [(ao, .inl (T 3, 1, .inr (.inl f)))] ++ oC T (w, q, qz, h, qs, t, gr, u, tr, oc) (Sw, S, Z, Sh, Hs, X, Gg, U, K, O)) (d := 7) cx (RX.fr (w_X7_set_t l hst G T H.size w q qz h qs t gr u tr oc Sw S Z Sh Hs X Gg U K O x y hbx) (Fr.head [(ao, .inl (T 3, 1, .inr (.inl f)))] (oC T (w, q, qz, h, qs, t, gr, u, tr, oc) (Sw, S, Z, Sh, Hs, X, Gg, U, K, O)) (oC T (w, q, qz, h, qs, t, gr, u, tr, oc) (Sw, S, Z, Sh, Hs, X, Gg, U, K, O)))) (cwV 2 hts gL_set_X7_set rfl rfl rfl (by decide +kernel) ⟨Nat.le_of_ble_eq_true rfl, Nat.le_of_ble_eq_true rfl⟩) (kN_full hP hD hS hA hE hK) hC (va_recv hK hP (ci := 7) (q0 := 1) rfl rfl) rfl hl.1 rfl (Nat.le_of_ble_eq_true rfl) dL_set_5 ⟨Nat.le_of_ble_eq_true rfl, Nat.le_of_ble_eq_true rfl⟩ (fun E9 ce q9 H locs he hP hD hS h1 h2 h3 => ?_) (fun v H locs he => by cases he)
  cases he
  refine vx_catch (own := RL) (name := "java/lang/IndexOutOfBoundsException") (E := "java/lang/IndexOutOfBoundsException") hown [] ⟨0, 10, 13, 13⟩ [⟨0, 10, 17, 15⟩] (htab.trans rfl) (fun _ h9 => by cases h9) (by decide) (by decide) (hts (.classLink RL 13 "java/lang/IndexOutOfBoundsException") (by decide +kernel)) (va_Nw.use rfl (hC.1 "java/lang/IndexOutOfBoundsException" (by decide))) h1 h2 h3 ?_
  refine lv_astore (lv' := [(4, .ref q9), (0, .ref (w 0)), (1, .int x), (2, .int y), (3, .ref ao)]) hx hb dL_set_13 hl (by decide) rfl (fun ls hl => ?_)
  refine n_iconst hx hb 1 dL_set_15 (by decide) ?_
  subst hQ
  exact vx_ret (W.widen (k := 1) (n := 6) (by decide) (by decide) (e_rwi hx hb hr hlocks hS rfl hP hD dL_set_16))
set_option maxHeartbeats 4000000 in
set_option maxRecDepth 100000 in
theorem c_L_set_t2 (l : Launch) (hst : l.stackTraces = false) (G : va_G) (T : Nat → ClassId) (sz ao : Nat) (f : Nat → Int64) (w : Nat → Nat) (q : Nat → Nat) (qz : Nat → Nat) (h : Nat → Nat) (qs : Nat → Nat → Nat) (t : Nat → Nat) (gr : Nat → Nat) (u : Nat → Nat) (tr : Nat → Nat) (oc : Nat → Nat) (Sw : Nat → Nat → Int32) (S : Nat → Nat → Int32) (Z : Nat → Nat → Int32) (Sh : Nat → Nat → Int32) (Hs : Nat → Nat → Nat → Int32) (X : Nat → Nat → Int32) (Gg : Nat → Nat → Int32) (U : Nat → Nat → Int32) (K : Nat → Nat → Int32) (O : Nat → Nat → Int32) (ii : Nat) (y : Int32) (hi2 : ii < 2) (hv9 : pVO (nI ii) y = false) : RWx l yL_set wsL_set 8 G T sz ([(ao, .inl (T 3, 1, .inr (.inl f)))] ++ oC T (w, q, qz, h, qs, t, gr, u, tr, oc) (Sw, S, Z, Sh, Hs, X, Gg, U, K, O)) [.ref (w 0), .int (nI ii), .int y, .ref ao] (nI 2) ([(ao, .inl (T 3, 1, .inr (.inl f)))] ++ oC T (w, q, qz, h, qs, t, gr, u, tr, oc) (Sw, S, Z, Sh, Hs, X, Gg, U, K, O)) := by
  refine met_vx (vx_ofWH (cc := cL_set) (maxL := 5) (ret := (some .int)) (by decide) rfl ?_)
  intro p e s m args below meth c s₁ B hml hv
  obtain ⟨ha, ⟨⟨hsz, hP, hK, hD0, hE0⟩, hC⟩, hN9⟩ := hv
  have hx := B.exec
  have hb := B.bytes
  have hr := B.returns
  have hlocks := B.notSynchronized
  have hts := atoms_spec (ws := wsL_set) B.pre
  have htab := vx_table (x := yL_set) B (hts (.codeWith yL_set cL_set 5 (some .int) [(0, 10, 13, 13), (0, 10, 17, 15)]) List.mem_cons_self)
  have hown : s.vm.findClass RL = some m.cls := findClass_of_methodNamed B.named
  have cx : CallFix p m c cL_set 5 s args wsL_set RL := ⟨hx, hb, hml, hown, hts⟩
  subst hsz
  have hD := hD0.self (sz := s.heap.size)
  generalize hAe : va_A ([(ao, .inl (T 3, 1, .inr (.inl f)))] ++ oC T (w, q, qz, h, qs, t, gr, u, tr, oc) (Sw, S, Z, Sh, Hs, X, Gg, U, K, O)) s.heap.size = A at hD hE0 ⊢
  have hE : gE A s s.heap := hE0
  have hA : ∀ q : Nat, s.heap.size ≤ q → A q := fun q h => by rw [← hAe]; exact Or.inr h
  have hS : va_S A s.heap s.heap [] := va_S.rf
  refine w_entry ha (Nat.le_of_ble_eq_true rfl) (fun ls hl => ?_)
  refine w_q (fun Q0 hQ => ?_)
  have hl : lv_has ls 5 [(0, .ref (w 0)), (1, .int (nI ii)), (2, .int y), (3, .ref ao)] := hl
  refine w_h (fun H locs hHe hLe => ?_)
  have hP : va_P G vwCl ([(ao, .inl (T 3, 1, .inr (.inl f)))] ++ oC T (w, q, qz, h, qs, t, gr, u, tr, oc) (Sw, S, Z, Sh, Hs, X, Gg, U, K, O)) H := by rw [hHe]; exact hP
  have hS : va_S A s.heap H locs := by rw [hHe, hLe]; exact hS
  refine lv_aload_n hx hb dL_set_0 rfl (lv_at hl 3 rfl) ?_
  refine n_iconst hx hb 0 dL_set_1 (by decide) ?_
  refine lv_aload_n hx hb dL_set_2 rfl (lv_at hl 0 rfl) ?_
  refine lv_iload_n hx hb dL_set_3 rfl (lv_at hl 1 rfl) ?_
  refine lv_iload_n hx hb dL_set_4 rfl (lv_at hl 2 rfl) ?_
  refine k_rxV (As := [.int (nI ii), .int y]) (rest := [.int (nI 0), .ref ao]) (wc := [(ao, .inl (T 3, 1, .inr (.inl f)))] ++ oC T (w, q, qz, h, qs, t, gr, u, tr, oc) (Sw, S, Z, Sh, Hs, X, Gg, U, K, O)) (wr := []) (w1 := [(ao, .inl (T 3, 1, .inr (.inl f)))] ++ oC T (w, q, qz, h, qs, t, gr, u, tr, oc) (Sw, S, Z, Sh, Hs, X, Gg, U, K, O)) (d := 7) cx (RX.fr (w_X7_set_t2 l hst G T H.size w q qz h qs t gr u tr oc Sw S Z Sh Hs X Gg U K O ii y hi2 hv9) (Fr.head [(ao, .inl (T 3, 1, .inr (.inl f)))] (oC T (w, q, qz, h, qs, t, gr, u, tr, oc) (Sw, S, Z, Sh, Hs, X, Gg, U, K, O)) (oC T (w, q, qz, h, qs, t, gr, u, tr, oc) (Sw, S, Z, Sh, Hs, X, Gg, U, K, O)))) (cwV 2 hts gL_set_X7_set rfl rfl rfl (by decide +kernel) ⟨Nat.le_of_ble_eq_true rfl, Nat.le_of_ble_eq_true rfl⟩) (kN_full hP hD hS hA hE hK) hC (va_recv hK hP (ci := 7) (q0 := 1) rfl rfl) rfl hl.1 rfl (Nat.le_of_ble_eq_true rfl) dL_set_5 ⟨Nat.le_of_ble_eq_true rfl, Nat.le_of_ble_eq_true rfl⟩ (fun E9 ce q9 H locs he hP hD hS h1 h2 h3 => ?_) (fun v H locs he => by cases he)
  cases he
  refine vx_catch (own := RL) (name := "java/lang/IllegalArgumentException") (E := "java/lang/IllegalArgumentException") hown [⟨0, 10, 13, 13⟩] ⟨0, 10, 17, 15⟩ [] (htab.trans rfl) (List.forall_mem_cons.mpr ⟨Or.inr ⟨by decide, "java/lang/IndexOutOfBoundsException", hts (.classLink RL 13 "java/lang/IndexOutOfBoundsException") (by decide +kernel), hN9.1⟩, (fun _ h9 => by cases h9)⟩) (by decide) (by decide) (hts (.classLink RL 15 "java/lang/IllegalArgumentException") (by decide +kernel)) (va_Nw.use rfl (hC.1 "java/lang/IllegalArgumentException" (by decide))) h1 h2 h3 ?_
  refine lv_astore (lv' := [(4, .ref q9), (0, .ref (w 0)), (1, .int (nI ii)), (2, .int y), (3, .ref ao)]) hx hb dL_set_17 hl (by decide) rfl (fun ls hl => ?_)
  refine n_iconst hx hb 2 dL_set_19 (by decide) ?_
  subst hQ
  exact vx_ret (W.widen (k := 1) (n := 6) (by decide) (by decide) (e_rwi hx hb hr hlocks hS rfl hP hD dL_set_20))
